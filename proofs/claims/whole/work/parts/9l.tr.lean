theorem i0_79 : ∀ c : Fin 20, ∀ n : Fin 192, MI0 (79 + c.val) n.val = 0 := by decide +kernel
theorem i0_100 : ∀ n : Fin 192, (0 ≤ MI0 100 n.val ∧ MI0 100 n.val ≤ 15) ∧ (0 ≤ MI0 104 n.val ∧ MI0 104 n.val ≤ 15) ∧ (0 ≤ MI0 110 n.val ∧ MI0 110 n.val ≤ 15) ∧ (0 ≤ MI0 4 n.val ∧ MI0 4 n.val ≤ 15) ∧ MI0 2 n.val = MI0 104 n.val := by decide +kernel
theorem i0_101 : ∀ n : Fin 16, (0 ≤ MI0 101 n.val ∧ MI0 101 n.val ≤ 255) ∧ (0 ≤ MI0 105 n.val ∧ MI0 105 n.val ≤ 255) ∧ (0 ≤ MI0 111 n.val ∧ MI0 111 n.val ≤ 255) := by decide +kernel
theorem i0_99 : MI0 99 2 = 0 ∧ MI0 5 1 = -1 ∧ MI0 17 6 = -1 ∧ MI0 42 3 = -1 := by decide +kernel
theorem i0_103 : MI0 103 1 = 1 ∧ MI0 103 2 = 1 ∧ MI0 103 5 = 0 ∧ MI0 103 7 = 0 ∧ MI0 103 8 = 0 ∧ MI0 103 9 = 0 ∧ MI0 103 13 = 0 ∧ MI0 103 18 = 0 ∧ MI0 103 19 = 0 := by decide +kernel
theorem i0_72 : ∀ n : Fin 12, MI0 72 n.val = 0 ∧ MI0 73 n.val = 0 ∧ MI0 71 n.val = 0 ∧ MI0 109 n.val = 0 ∧ MI0 112 n.val = 0 ∧ MI0 108 n.val = 0 := by decide +kernel
theorem i0_26 : ∀ n : Fin 8, MI0 (26 + 2 * n.val) 0 = 0 ∧ MI0 (26 + 2 * n.val) 2 = 0 ∧ MI0 (26 + 2 * n.val) 5 = 0 ∧ MI0 (26 + 2 * n.val) 6 = 0 ∧ MI0 (26 + 2 * n.val) 7 = 0 ∧ MI0 (26 + 2 * n.val) 8 = 0 ∧ MI0 134 n.val = 0 ∧ MI0 136 n.val = 0 ∧ MI0 137 n.val = 0 ∧ MI0 138 n.val = 0 ∧ MI0 139 n.val = 0 ∧ MI0 141 n.val = 0 := by decide +kernel
theorem i0_75 : ∀ n : Fin 13, MI0 75 n.val = 0 := by decide +kernel
theorem i0_bI : bI MI0 := by
  obtain ⟨a0, a1, a2, a3⟩ := i0_1
  obtain ⟨b0, b1, b2, b3, b4, b5, b6⟩ := i0_77
  refine ⟨by unfold bDim; rw [a0, a1]; decide, .inl a2, by rw [a3]; decide, fun i i0 i1 => finA (p := fun i => 0 ≤ MI0 2 i ∧ MI0 2 i ≤ 15) i0_2 i0 i1, fun i i0 i1 => finA (p := fun i => 0 ≤ MI0 3 i ∧ MI0 3 i ≤ 255) (fun n => (i0_3 n).1) i0 i1,
    ⟨by rw [b0, b1]; decide, by rw [b2]; decide, fun k i k0 k1 i0 i1 => ?_⟩, ⟨by rw [b3]; decide, fun h => absurd b4 h, fun i i0 i1 => finA (p := fun i => 0 ≤ MI0 100 i ∧ MI0 100 i ≤ 15) (fun n => (i0_100 n).1) i0 i1, fun i i0 i1 => finA (p := fun i => 0 ≤ MI0 101 i ∧ MI0 101 i ≤ 255) (fun n => (i0_101 n).1) i0 i1, .inl i0_99.1⟩,
    ⟨by rw [b5]; decide, by rw [b6]; decide, fun i i0 i1 => .inl (finA (p := fun i => MI0 72 i = 0) (fun n => (i0_72 n).1) i0 i1), fun i i0 i1 => .inl (finA (p := fun i => MI0 73 i = 0) (fun n => (i0_72 n).2.1) i0 i1), fun i i0 i1 => ?_⟩, fun d d0 d1 => ?_⟩
  · have h := finA (p := fun c => MI0 (79 + c) i = 0) (fun c => finA (p := fun i => MI0 (79 + (c.val : Int)) i = 0) (i0_79 c) i0 i1) k0 k1
    rw [h]; decide
  · rw [finA (p := fun i => MI0 71 i = 0) (fun n => (i0_72 n).2.2.1) i0 i1]; decide
  · obtain ⟨_, c2, c5, c6, c7, c8, _⟩ := finA (p := fun n => MI0 (26 + 2 * n) 0 = 0 ∧ MI0 (26 + 2 * n) 2 = 0 ∧ MI0 (26 + 2 * n) 5 = 0 ∧ MI0 (26 + 2 * n) 6 = 0 ∧ MI0 (26 + 2 * n) 7 = 0 ∧ MI0 (26 + 2 * n) 8 = 0 ∧ MI0 134 n = 0 ∧ MI0 136 n = 0 ∧ MI0 137 n = 0 ∧ MI0 138 n = 0 ∧ MI0 139 n = 0 ∧ MI0 141 n = 0) i0_26 d0 d1
    rw [c2, c5, c6, c7, c8]; decide
theorem i0_mI : mI MI0 := by
  obtain ⟨a1, a2, a5, a7, a8, a9, a13, a18, a19⟩ := i0_103
  refine ⟨by unfold mDim; rw [a1, a2]; decide, .inl a5, fun i i0 i1 => finA (p := fun i => 0 ≤ MI0 104 i ∧ MI0 104 i ≤ 15) (fun n => (i0_100 n).2.1) i0 i1, fun i i0 i1 => finA (p := fun i => 0 ≤ MI0 105 i ∧ MI0 105 i ≤ 255) (fun n => (i0_101 n).2.1) i0 i1,
    ⟨by rw [a7, a8]; decide, fun i i0 i1 => by rw [a7] at i1; omega⟩, ⟨fun h => absurd a13 h, fun i i0 i1 => finA (p := fun i => 0 ≤ MI0 110 i ∧ MI0 110 i ≤ 15) (fun n => (i0_100 n).2.2.1) i0 i1, fun i i0 i1 => finA (p := fun i => 0 ≤ MI0 111 i ∧ MI0 111 i ≤ 255) (fun n => (i0_101 n).2.2) i0 i1, .inl a18⟩,
    ⟨by rw [a9]; decide, by rw [a19]; decide, fun i i0 i1 => .inl (finA (p := fun i => MI0 109 i = 0) (fun n => (i0_72 n).2.2.2.1) i0 i1), fun i i0 i1 => .inl (finA (p := fun i => MI0 112 i = 0) (fun n => (i0_72 n).2.2.2.2.1) i0 i1), fun i i0 i1 => ?_⟩, fun d d0 d1 => ?_⟩
  · rw [finA (p := fun i => MI0 108 i = 0) (fun n => (i0_72 n).2.2.2.2.2) i0 i1]; decide
  · obtain ⟨_, _, _, _, _, _, _, c6, c7, c8, c9, c1⟩ := finA (p := fun n => MI0 (26 + 2 * n) 0 = 0 ∧ MI0 (26 + 2 * n) 2 = 0 ∧ MI0 (26 + 2 * n) 5 = 0 ∧ MI0 (26 + 2 * n) 6 = 0 ∧ MI0 (26 + 2 * n) 7 = 0 ∧ MI0 (26 + 2 * n) 8 = 0 ∧ MI0 134 n = 0 ∧ MI0 136 n = 0 ∧ MI0 137 n = 0 ∧ MI0 138 n = 0 ∧ MI0 139 n = 0 ∧ MI0 141 n = 0) i0_26 d0 d1
    rw [c1, c6, c7, c8, c9]; decide
theorem i0_zR : zR MI0 := by
  obtain ⟨a1, a2, a5, a7, a8, a9, a13, a18, a19⟩ := i0_103
  obtain ⟨e0, e1, e2, e3⟩ := i0_1
  obtain ⟨b0, b1, b2, b3, b4, b5, b6⟩ := i0_77
  refine ⟨⟨by rw [e0, a1], by rw [e1, a2], by rw [e2, a5]⟩, fun i d => ?_, fun c c0 c1 => finA (p := fun i => MI0 3 i = MI0 105 i) (fun n => (i0_3 n).2) c0 c1, ⟨⟨by rw [b0, a8], by rw [b0, b1, a7]; rfl⟩, fun k k0 k1 => by rw [a7] at k1; omega⟩,
    ⟨⟨by rw [b5, a9], by rw [b5, b6]; decide, by rw [b5]; decide⟩, fun q q0 q1 => ?_, fun q q0 q1 => by rw [b5] at q1; omega⟩, ⟨⟨fun h => absurd b4 h, fun h => absurd a13 h⟩, fun h => absurd b4 h⟩, fun d d0 d1 => ?_⟩
  · rw [e0, e1] at d
    exact finA (p := fun i => MI0 2 i = MI0 104 i) (fun n => (i0_100 n).2.2.2.2) d.1 (by omega)
  · rw [finA (p := fun i => MI0 72 i = 0) (fun n => (i0_72 n).1) q0 q1, finA (p := fun i => MI0 109 i = 0) (fun n => (i0_72 n).2.2.2.1) q0 q1]
  · obtain ⟨c0, _, _, _, _, _, c4, _⟩ := finA (p := fun n => MI0 (26 + 2 * n) 0 = 0 ∧ MI0 (26 + 2 * n) 2 = 0 ∧ MI0 (26 + 2 * n) 5 = 0 ∧ MI0 (26 + 2 * n) 6 = 0 ∧ MI0 (26 + 2 * n) 7 = 0 ∧ MI0 (26 + 2 * n) 8 = 0 ∧ MI0 134 n = 0 ∧ MI0 136 n = 0 ∧ MI0 137 n = 0 ∧ MI0 138 n = 0 ∧ MI0 139 n = 0 ∧ MI0 141 n = 0) i0_26 d0 d1
    rw [c0, c4]
    exact ⟨⟨rfl, .inl rfl⟩, fun h => absurd h (by decide), fun h => absurd h (by decide)⟩
theorem i0_zJn : zJn 0 MI0 := by
  obtain ⟨e0, e1, e2, e3⟩ := i0_1
  obtain ⟨c0, c1, c2, c3⟩ := i0_99
  refine ⟨i0_bI, ⟨fun i i0 i1 => finA (p := fun i => 0 ≤ MI0 4 i ∧ MI0 4 i ≤ 15) (fun n => (i0_100 n).2.2.2.1) i0 i1, by rw [c1, c2, c3, e3]; decide, fun h => ?_, fun h => ?_, fun h => ?_⟩, fun k k0 k1 => ?_, i0_mI, i0_zR, by rw [e3]; decide, by rw [i0_77.2.2.2.1]; decide⟩
  · rw [c1, e3] at h; omega
  · rw [c2, e3] at h; omega
  · rw [c3, e3] at h; omega
  · rw [finA (p := fun i => MI0 75 i = 0) i0_75 k0 k1]; decide
/-- slots that hold a thing for good -/
def zFx (M : zM) : Prop := ∀ c j : Nat, c < 145 → 2 ≤ zS.2.2 c j → M c j = (zS.2.2 c j : Nat) - 2
theorem zco_len : ∀ c : Fin 145, (zco.getD c.val []).length ≤ 75 := by decide +kernel
theorem i0_Fx0 : ∀ c : Fin 145, ∀ j : Fin 75, 2 ≤ zS.2.2 c.val j.val → MI0 c.val j.val = (zS.2.2 c.val j.val : Nat) - 2 := by decide +kernel
theorem i0_Fx : zFx MI0 := by
  intro c j hc h2
  by_cases hj : j < 75
  · exact i0_Fx0 ⟨c, hc⟩ ⟨j, hj⟩ h2
  · have e : zS.2.2 c j = 0 := by
      show (zco.getD c []).getD j 0 = 0
      have : (zco.getD c []).length ≤ 75 := zco_len ⟨c, hc⟩
      rw [List.getD_eq_getElem?_getD, List.getElem?_eq_none (by omega)]; rfl
    omega
theorem zFx.sl {M : zM} (h : zFx M) (ad : Nat → Nat) {c j : Nat} (hc : c < 145) : zsl ad (zS0.2.2 c j) (M c j) = zsl ad (zS.2.2 c j) (M c j) := by
  show zsl ad (if zS.2.2 c j = 0 then 0 else 1) (M c j) = _
  by_cases e0 : zS.2.2 c j = 0
  · rw [if_pos e0, e0]
  · rw [if_neg e0]
    by_cases e1 : zS.2.2 c j = 1
    · rw [e1]
    · have q := h c j hc (by omega)
      rw [q]
      unfold zsl zA
      rw [if_neg (by decide), if_pos rfl, if_neg e0, if_neg e1, if_neg (by omega)]
      congr 2
      omega
theorem zFx.rf {M : zM} (h : zFx M) (ad : Nat → Nat) {c j : Nat} (hc : c < 145) : zrf ad (zS0.2.2 c j) (M c j) = zrf ad (zS.2.2 c j) (M c j) := by
  show zrf ad (if zS.2.2 c j = 0 then 0 else 1) (M c j) = _
  unfold zrf
  by_cases e1 : zS.2.2 c j ≤ 1
  · rw [if_pos e1, if_pos (by split <;> omega)]
  · have q := h c j hc (by omega)
    rw [q, if_neg e1, if_pos (by split <;> omega), if_neg (by omega)]
    congr 2
    omega
theorem zFx.w {M : zM} (h : zFx M) (ad : Nat → Nat) (cA : Nat → ClassId) : zw ad cA zS0 145 M = zw ad cA zS 145 M := by
  unfold zw
  refine List.map_congr_left (fun c hc => ?_)
  have hc := List.mem_range.mp hc
  have e1 : (fun j : Nat => zsl ad (zS0.2.2 c j) (M c j)) = fun j : Nat => zsl ad (zS.2.2 c j) (M c j) := funext fun j => h.sl ad hc
  have e2 : (fun j : Nat => zrf ad (zS0.2.2 c j) (M c j)) = fun j : Nat => zrf ad (zS.2.2 c j) (M c j) := funext fun j => h.rf ad hc
  show (ad c, zent ad cA zS0 M c) = (ad c, zent ad cA zS M c)
  unfold zent
  rw [e1, e2]
  rfl
theorem zu_shape {RR : Room} {QQ : State → Prop} {Γ : zG} {n : Nat} {pc : Nat} {L : List (Nat × Value)} {st : List Value} {M : zM} (h : zFx M) (kk : zU RR QQ Γ mcL (145, 145, n) pc L st M) : zU RR QQ Γ mc0 (145, 145, n) pc L st M := by
  obtain ⟨p, l, e, s, m, args, below, meth, c, D, cA, ad, A, t1, t2, P⟩ := Γ
  intro H locs ls hR hP hD hS hz hv
  have e := h.w ad cA
  dsimp only at hP hD
  rw [e] at hP hD
  exact kk H locs ls hR hP hD hS (fun q => absurd rfl q) hv
