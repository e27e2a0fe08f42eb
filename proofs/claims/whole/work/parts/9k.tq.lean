def M00 : zM := fun c k => if zS0.2.2 c.toNat k.toNat = 1 then -1 else 0
theorem M00_f : zfrs M00 0 := fun c k _ => by
  unfold M00
  rw [Int.toNat_natCast, Int.toNat_natCast]
theorem M00_r : zRng M00 := fun c k => by
  unfold M00
  split <;> decide
/-- the memory at the law's start -/
def MI0 : zM := cf_X12_init_103 (cf_X11_init_0 M00)
theorem finA {N : Nat} {p : Int → Prop} (h : ∀ n : Fin N, p n.val) {i : Int} (i0 : 0 ≤ i) (i1 : i < N) : p i := by
  have := h ⟨i.toNat, by omega⟩
  rw [show (((⟨i.toNat, by omega⟩ : Fin N).val : Nat) : Int) = i from by show ((i.toNat : Nat) : Int) = i; omega] at this
  exact this
theorem i0_1 : MI0 1 0 = 1 ∧ MI0 1 1 = 1 ∧ MI0 1 2 = 0 ∧ MI0 1 3 = 0 := by decide +kernel
theorem i0_2 : ∀ n : Fin 192, 0 ≤ MI0 2 n.val ∧ MI0 2 n.val ≤ 15 := by decide +kernel
theorem i0_3 : ∀ n : Fin 16, (0 ≤ MI0 3 n.val ∧ MI0 3 n.val ≤ 255) ∧ MI0 3 n.val = MI0 105 n.val := by decide +kernel
theorem i0_77 : MI0 77 0 = 0 ∧ MI0 77 1 = 0 ∧ MI0 77 2 = 0 ∧ MI0 99 3 = 0 ∧ MI0 0 12 = 0 ∧ MI0 57 0 = 0 ∧ MI0 57 4 = 0 := by decide +kernel
