def zU (RR : Room) (QQ : State → Prop) (Γ : zG) (μ : zMc) (κ : Nat × Nat × Nat) (pc : Nat) (L : List (Nat × Value)) (st : List Value) (M : zM) : Prop := match Γ with
  | (p, l, e, s, m, args, below, meth, c, D, cA, ad, A, _, _, _) => ∀ (H : Heap) (locs : List Loc) (ls : Array Slot), zRng M → va_P D vwCl (zw ad cA μ.2.2.2.2.2.1 κ.1 M) H → va_D A (zw ad cA μ.2.2.2.2.2.1 κ.1 M) → va_S A s.heap H locs → (μ.2.2.2.2.2.2.2.1 ≠ 0 → H.size = s.heap.size + κ.2.1) → lv_has ls μ.2.2.1 L →
    W p l e RR s m args below meth c H locs κ.2.1 κ.2.2 QQ (F0 m pc ls st)
theorem zu_rng {RR : Room} {QQ : State → Prop} {Γ : zG} {μ : zMc} {κ : Nat × Nat × Nat} {pc : Nat} {L : List (Nat × Value)} {st : List Value} {M : zM} (h : zRng M → zU RR QQ Γ μ κ pc L st M) : zU RR QQ Γ μ κ pc L st M := fun H locs ls hR => h hR H locs ls hR
theorem zu_sub {RR : Room} {QQ : State → Prop} {Γ : zG} {μ : zMc} {κ : Nat × Nat × Nat} {pc : Nat} {L L' : List (Nat × Value)} {st : List Value} {M : zM} (ks : List Nat) (hl : lv_pick L ks = L') (h : zU RR QQ Γ μ κ pc L' st M) : zU RR QQ Γ μ κ pc L st M := fun H locs ls hR hP hD hS hz hv => h H locs ls hR hP hD hS hz (lv_sub hv ks hl)
theorem zu_stk {RR : Room} {QQ : State → Prop} {Γ : zG} {μ : zMc} {κ : Nat × Nat × Nat} {pc : Nat} {L : List (Nat × Value)} {st st' : List Value} {M : zM} (e : st' = st) (h : zU RR QQ Γ μ κ pc L st M) : zU RR QQ Γ μ κ pc L st' M := e ▸ h
theorem zu_iconst {RR : Room} {QQ : State → Prop} {Γ : zG} {μ : zMc} (C : zC Γ μ) {κ : Nat × Nat × Nat} {pc : Nat} {L : List (Nat × Value)} {st : List Value} {M : zM} {n : Int} (hd : decode μ.1 pc = .ok (.iconst n, 1)) (kk : zU RR QQ Γ μ κ (pc + 1) L (zI n :: st) M) : zU RR QQ Γ μ κ pc L st M := by
  obtain ⟨p, l, e, s, m, args, below, meth, c, D, cA, ad, A, t1, t2, P⟩ := Γ
  obtain ⟨⟨hx, hb, hml, hown, hts⟩, hr, hlk, hK, hA, hSt, hNs⟩ := C
  intro H locs ls hR hP hD hS hz hv
  exact lv_iconst hx hb hd rfl (kk H locs ls hR hP hD hS hz hv)
theorem zu_bipush {RR : Room} {QQ : State → Prop} {Γ : zG} {μ : zMc} (C : zC Γ μ) {κ : Nat × Nat × Nat} {pc : Nat} {L : List (Nat × Value)} {st : List Value} {M : zM} {n : Int} (hd : decode μ.1 pc = .ok (.bipush n, 2)) (hn : (Int8.ofInt n).toInt32 = Int32.ofInt n) (kk : zU RR QQ Γ μ κ (pc + 2) L (zI n :: st) M) : zU RR QQ Γ μ κ pc L st M := by
  obtain ⟨p, l, e, s, m, args, below, meth, c, D, cA, ad, A, t1, t2, P⟩ := Γ
  obtain ⟨⟨hx, hb, hml, hown, hts⟩, hr, hlk, hK, hA, hSt, hNs⟩ := C
  intro H locs ls hR hP hD hS hz hv
  exact lv_bipush hx hb hd hn (kk H locs ls hR hP hD hS hz hv)
theorem zu_iload_n {RR : Room} {QQ : State → Prop} {Γ : zG} {μ : zMc} (C : zC Γ μ) {κ : Nat × Nat × Nat} {pc : Nat} {L : List (Nat × Value)} {st : List Value} {M : zM} {j : Fin 4} {i : Nat} {x : Int} (k : Nat) (hk : L[k]? = some (i, zI x)) (hd : decode μ.1 pc = .ok (.iload_n j, 1)) (hi : (j : Nat) = i) (kk : zU RR QQ Γ μ κ (pc + 1) L (zI x :: st) M) : zU RR QQ Γ μ κ pc L st M := by
  obtain ⟨p, l, e, s, m, args, below, meth, c, D, cA, ad, A, t1, t2, P⟩ := Γ
  obtain ⟨⟨hx, hb, hml, hown, hts⟩, hr, hlk, hK, hA, hSt, hNs⟩ := C
  intro H locs ls hR hP hD hS hz hv
  exact lv_iload_n hx hb hd hi (lv_at hv k hk) (kk H locs ls hR hP hD hS hz hv)
theorem zu_iload {RR : Room} {QQ : State → Prop} {Γ : zG} {μ : zMc} (C : zC Γ μ) {κ : Nat × Nat × Nat} {pc : Nat} {L : List (Nat × Value)} {st : List Value} {M : zM} {i : Nat} {x : Int} (k : Nat) (hk : L[k]? = some (i, zI x)) (hd : decode μ.1 pc = .ok (.iload i, 2)) (kk : zU RR QQ Γ μ κ (pc + 2) L (zI x :: st) M) : zU RR QQ Γ μ κ pc L st M := by
  obtain ⟨p, l, e, s, m, args, below, meth, c, D, cA, ad, A, t1, t2, P⟩ := Γ
  obtain ⟨⟨hx, hb, hml, hown, hts⟩, hr, hlk, hK, hA, hSt, hNs⟩ := C
  intro H locs ls hR hP hD hS hz hv
  exact lv_iload hx hb hd (lv_at hv k hk) (kk H locs ls hR hP hD hS hz hv)
theorem zu_lload_n {RR : Room} {QQ : State → Prop} {Γ : zG} {μ : zMc} (C : zC Γ μ) {κ : Nat × Nat × Nat} {pc : Nat} {L : List (Nat × Value)} {st : List Value} {M : zM} {j : Fin 4} {i : Nat} {x : Int} (k : Nat) (hk : L[k]? = some (i, zJ x)) (hd : decode μ.1 pc = .ok (.lload_n j, 1)) (hi : (j : Nat) = i) (kk : zU RR QQ Γ μ κ (pc + 1) L (zJ x :: st) M) : zU RR QQ Γ μ κ pc L st M := by
  obtain ⟨p, l, e, s, m, args, below, meth, c, D, cA, ad, A, t1, t2, P⟩ := Γ
  obtain ⟨⟨hx, hb, hml, hown, hts⟩, hr, hlk, hK, hA, hSt, hNs⟩ := C
  intro H locs ls hR hP hD hS hz hv
  exact lv_lload_n hx hb hd hi (lv_at hv k hk) (kk H locs ls hR hP hD hS hz hv)
theorem zu_lload {RR : Room} {QQ : State → Prop} {Γ : zG} {μ : zMc} (C : zC Γ μ) {κ : Nat × Nat × Nat} {pc : Nat} {L : List (Nat × Value)} {st : List Value} {M : zM} {i : Nat} {x : Int} (k : Nat) (hk : L[k]? = some (i, zJ x)) (hd : decode μ.1 pc = .ok (.lload i, 2)) (kk : zU RR QQ Γ μ κ (pc + 2) L (zJ x :: st) M) : zU RR QQ Γ μ κ pc L st M := by
  obtain ⟨p, l, e, s, m, args, below, meth, c, D, cA, ad, A, t1, t2, P⟩ := Γ
  obtain ⟨⟨hx, hb, hml, hown, hts⟩, hr, hlk, hK, hA, hSt, hNs⟩ := C
  intro H locs ls hR hP hD hS hz hv
  exact lv_lload hx hb hd (lv_at hv k hk) (kk H locs ls hR hP hD hS hz hv)
theorem zu_aload_n {RR : Room} {QQ : State → Prop} {Γ : zG} {μ : zMc} (C : zC Γ μ) {κ : Nat × Nat × Nat} {pc : Nat} {L : List (Nat × Value)} {st : List Value} {M : zM} {j : Fin 4} {i : Nat} {x : Int} (k : Nat) (hk : L[k]? = some (i, zRf (zad Γ) x)) (hd : decode μ.1 pc = .ok (.aload_n j, 1)) (hi : (j : Nat) = i) (kk : zU RR QQ Γ μ κ (pc + 1) L (zRf (zad Γ) x :: st) M) : zU RR QQ Γ μ κ pc L st M := by
  obtain ⟨p, l, e, s, m, args, below, meth, c, D, cA, ad, A, t1, t2, P⟩ := Γ
  obtain ⟨⟨hx, hb, hml, hown, hts⟩, hr, hlk, hK, hA, hSt, hNs⟩ := C
  intro H locs ls hR hP hD hS hz hv
  exact lv_aload_n hx hb hd hi (lv_at hv k hk) (kk H locs ls hR hP hD hS hz hv)
theorem zu_aload {RR : Room} {QQ : State → Prop} {Γ : zG} {μ : zMc} (C : zC Γ μ) {κ : Nat × Nat × Nat} {pc : Nat} {L : List (Nat × Value)} {st : List Value} {M : zM} {i : Nat} {x : Int} (k : Nat) (hk : L[k]? = some (i, zRf (zad Γ) x)) (hd : decode μ.1 pc = .ok (.aload i, 2)) (kk : zU RR QQ Γ μ κ (pc + 2) L (zRf (zad Γ) x :: st) M) : zU RR QQ Γ μ κ pc L st M := by
  obtain ⟨p, l, e, s, m, args, below, meth, c, D, cA, ad, A, t1, t2, P⟩ := Γ
  obtain ⟨⟨hx, hb, hml, hown, hts⟩, hr, hlk, hK, hA, hSt, hNs⟩ := C
  intro H locs ls hR hP hD hS hz hv
  exact lv_aload hx hb hd (lv_at hv k hk) (kk H locs ls hR hP hD hS hz hv)
theorem zu_istore_n {RR : Room} {QQ : State → Prop} {Γ : zG} {μ : zMc} (C : zC Γ μ) {κ : Nat × Nat × Nat} {pc : Nat} {L : List (Nat × Value)} {st : List Value} {M : zM} {j : Fin 4} {i : Nat} {x : Int} {L1 : List (Nat × Value)} (hd : decode μ.1 pc = .ok (.istore_n j, 1)) (hi : (j : Nat) = i) (hn : i < μ.2.2.1) (hl : (i, zI x) :: L.filter (fun q => !(q.1 == i) && !(q.1 + 1 == i && q.2.category == 2)) = L1) (kk : zU RR QQ Γ μ κ (pc + 1) L1 st M) : zU RR QQ Γ μ κ pc L (zI x :: st) M := by
  obtain ⟨p, l, e, s, m, args, below, meth, c, D, cA, ad, A, t1, t2, P⟩ := Γ
  obtain ⟨⟨hx, hb, hml, hown, hts⟩, hr, hlk, hK, hA, hSt, hNs⟩ := C
  intro H locs ls hR hP hD hS hz hv
  exact lv_istore_n hx hb hd hi hv hn hl (fun ls hv => kk H locs ls hR hP hD hS hz hv)
theorem zu_istore {RR : Room} {QQ : State → Prop} {Γ : zG} {μ : zMc} (C : zC Γ μ) {κ : Nat × Nat × Nat} {pc : Nat} {L : List (Nat × Value)} {st : List Value} {M : zM} {i : Nat} {x : Int} {L1 : List (Nat × Value)} (hd : decode μ.1 pc = .ok (.istore i, 2)) (hn : i < μ.2.2.1) (hl : (i, zI x) :: L.filter (fun q => !(q.1 == i) && !(q.1 + 1 == i && q.2.category == 2)) = L1) (kk : zU RR QQ Γ μ κ (pc + 2) L1 st M) : zU RR QQ Γ μ κ pc L (zI x :: st) M := by
  obtain ⟨p, l, e, s, m, args, below, meth, c, D, cA, ad, A, t1, t2, P⟩ := Γ
  obtain ⟨⟨hx, hb, hml, hown, hts⟩, hr, hlk, hK, hA, hSt, hNs⟩ := C
  intro H locs ls hR hP hD hS hz hv
  exact lv_istore hx hb hd hv hn hl (fun ls hv => kk H locs ls hR hP hD hS hz hv)
theorem zu_lstore_n {RR : Room} {QQ : State → Prop} {Γ : zG} {μ : zMc} (C : zC Γ μ) {κ : Nat × Nat × Nat} {pc : Nat} {L : List (Nat × Value)} {st : List Value} {M : zM} {j : Fin 4} {i : Nat} {x : Int} {L1 : List (Nat × Value)} (hd : decode μ.1 pc = .ok (.lstore_n j, 1)) (hi : (j : Nat) = i) (hn : i + 1 < μ.2.2.1) (hl : (i, zJ x) :: L.filter (fun q => !(q.1 == i) && (!(q.1 == i + 1) && !(q.1 + 1 == i && q.2.category == 2))) = L1) (kk : zU RR QQ Γ μ κ (pc + 1) L1 st M) : zU RR QQ Γ μ κ pc L (zJ x :: st) M := by
  obtain ⟨p, l, e, s, m, args, below, meth, c, D, cA, ad, A, t1, t2, P⟩ := Γ
  obtain ⟨⟨hx, hb, hml, hown, hts⟩, hr, hlk, hK, hA, hSt, hNs⟩ := C
  intro H locs ls hR hP hD hS hz hv
  exact lv_lstore_n hx hb hd hi hv hn hl (fun ls hv => kk H locs ls hR hP hD hS hz hv)
theorem zu_lstore {RR : Room} {QQ : State → Prop} {Γ : zG} {μ : zMc} (C : zC Γ μ) {κ : Nat × Nat × Nat} {pc : Nat} {L : List (Nat × Value)} {st : List Value} {M : zM} {i : Nat} {x : Int} {L1 : List (Nat × Value)} (hd : decode μ.1 pc = .ok (.lstore i, 2)) (hn : i + 1 < μ.2.2.1) (hl : (i, zJ x) :: L.filter (fun q => !(q.1 == i) && (!(q.1 == i + 1) && !(q.1 + 1 == i && q.2.category == 2))) = L1) (kk : zU RR QQ Γ μ κ (pc + 2) L1 st M) : zU RR QQ Γ μ κ pc L (zJ x :: st) M := by
  obtain ⟨p, l, e, s, m, args, below, meth, c, D, cA, ad, A, t1, t2, P⟩ := Γ
  obtain ⟨⟨hx, hb, hml, hown, hts⟩, hr, hlk, hK, hA, hSt, hNs⟩ := C
  intro H locs ls hR hP hD hS hz hv
  exact lv_lstore hx hb hd hv hn hl (fun ls hv => kk H locs ls hR hP hD hS hz hv)
theorem zu_astore_n {RR : Room} {QQ : State → Prop} {Γ : zG} {μ : zMc} (C : zC Γ μ) {κ : Nat × Nat × Nat} {pc : Nat} {L : List (Nat × Value)} {st : List Value} {M : zM} {j : Fin 4} {i : Nat} {x : Int} {L1 : List (Nat × Value)} (hd : decode μ.1 pc = .ok (.astore_n j, 1)) (hi : (j : Nat) = i) (hn : i < μ.2.2.1) (hl : (i, zRf (zad Γ) x) :: L.filter (fun q => !(q.1 == i) && !(q.1 + 1 == i && q.2.category == 2)) = L1) (kk : zU RR QQ Γ μ κ (pc + 1) L1 st M) : zU RR QQ Γ μ κ pc L (zRf (zad Γ) x :: st) M := by
  obtain ⟨p, l, e, s, m, args, below, meth, c, D, cA, ad, A, t1, t2, P⟩ := Γ
  obtain ⟨⟨hx, hb, hml, hown, hts⟩, hr, hlk, hK, hA, hSt, hNs⟩ := C
  intro H locs ls hR hP hD hS hz hv
  exact lv_astore_n hx hb hd hi hv hn hl (fun ls hv => kk H locs ls hR hP hD hS hz hv)
theorem zu_astore {RR : Room} {QQ : State → Prop} {Γ : zG} {μ : zMc} (C : zC Γ μ) {κ : Nat × Nat × Nat} {pc : Nat} {L : List (Nat × Value)} {st : List Value} {M : zM} {i : Nat} {x : Int} {L1 : List (Nat × Value)} (hd : decode μ.1 pc = .ok (.astore i, 2)) (hn : i < μ.2.2.1) (hl : (i, zRf (zad Γ) x) :: L.filter (fun q => !(q.1 == i) && !(q.1 + 1 == i && q.2.category == 2)) = L1) (kk : zU RR QQ Γ μ κ (pc + 2) L1 st M) : zU RR QQ Γ μ κ pc L (zRf (zad Γ) x :: st) M := by
  obtain ⟨p, l, e, s, m, args, below, meth, c, D, cA, ad, A, t1, t2, P⟩ := Γ
  obtain ⟨⟨hx, hb, hml, hown, hts⟩, hr, hlk, hK, hA, hSt, hNs⟩ := C
  intro H locs ls hR hP hD hS hz hv
  exact lv_astore hx hb hd hv hn hl (fun ls hv => kk H locs ls hR hP hD hS hz hv)
theorem zu_iinc {RR : Room} {QQ : State → Prop} {Γ : zG} {μ : zMc} (C : zC Γ μ) {κ : Nat × Nat × Nat} {pc : Nat} {L : List (Nat × Value)} {st : List Value} {M : zM} {i : Nat} {n x : Int} {L1 : List (Nat × Value)} (k : Nat) (hk : L[k]? = some (i, zI x)) (hd : decode μ.1 pc = .ok (.iinc i n, 3)) (hn : i < μ.2.2.1) (hl : (i, zI (x + n)) :: L.filter (fun q => !(q.1 == i) && !(q.1 + 1 == i && q.2.category == 2)) = L1) (kk : zU RR QQ Γ μ κ (pc + 3) L1 st M) : zU RR QQ Γ μ κ pc L st M := by
  obtain ⟨p, l, e, s, m, args, below, meth, c, D, cA, ad, A, t1, t2, P⟩ := Γ
  obtain ⟨⟨hx, hb, hml, hown, hts⟩, hr, hlk, hK, hA, hSt, hNs⟩ := C
  intro H locs ls hR hP hD hS hz hv
  exact lv_iinc (k := k) hx hb hd hv hk (z_add _ _) hn hl (fun ls hv => kk H locs ls hR hP hD hS hz hv)
theorem zu_iadd {RR : Room} {QQ : State → Prop} {Γ : zG} {μ : zMc} (C : zC Γ μ) {κ : Nat × Nat × Nat} {pc : Nat} {L : List (Nat × Value)} {st : List Value} {M : zM} {x y : Int} (hd : decode μ.1 pc = .ok (.iadd, 1)) (kk : zU RR QQ Γ μ κ (pc + 1) L (zI (x + y) :: st) M) : zU RR QQ Γ μ κ pc L (zI y :: zI x :: st) M := by
  obtain ⟨p, l, e, s, m, args, below, meth, c, D, cA, ad, A, t1, t2, P⟩ := Γ
  obtain ⟨⟨hx, hb, hml, hown, hts⟩, hr, hlk, hK, hA, hSt, hNs⟩ := C
  intro H locs ls hR hP hD hS hz hv
  refine lv_iadd hx hb hd ?_
  rw [z_add]
  exact kk H locs ls hR hP hD hS hz hv
theorem zu_isub {RR : Room} {QQ : State → Prop} {Γ : zG} {μ : zMc} (C : zC Γ μ) {κ : Nat × Nat × Nat} {pc : Nat} {L : List (Nat × Value)} {st : List Value} {M : zM} {x y : Int} (hd : decode μ.1 pc = .ok (.isub, 1)) (kk : zU RR QQ Γ μ κ (pc + 1) L (zI (x - y) :: st) M) : zU RR QQ Γ μ κ pc L (zI y :: zI x :: st) M := by
  obtain ⟨p, l, e, s, m, args, below, meth, c, D, cA, ad, A, t1, t2, P⟩ := Γ
  obtain ⟨⟨hx, hb, hml, hown, hts⟩, hr, hlk, hK, hA, hSt, hNs⟩ := C
  intro H locs ls hR hP hD hS hz hv
  refine lv_isub hx hb hd ?_
  rw [z_sub]
  exact kk H locs ls hR hP hD hS hz hv
theorem zu_iand {RR : Room} {QQ : State → Prop} {Γ : zG} {μ : zMc} (C : zC Γ μ) {κ : Nat × Nat × Nat} {pc : Nat} {L : List (Nat × Value)} {st : List Value} {M : zM} {x y : Int} (hd : decode μ.1 pc = .ok (.iand, 1)) (kk : zU RR QQ Γ μ κ (pc + 1) L (zI (zland x y) :: st) M) : zU RR QQ Γ μ κ pc L (zI y :: zI x :: st) M := by
  obtain ⟨p, l, e, s, m, args, below, meth, c, D, cA, ad, A, t1, t2, P⟩ := Γ
  obtain ⟨⟨hx, hb, hml, hown, hts⟩, hr, hlk, hK, hA, hSt, hNs⟩ := C
  intro H locs ls hR hP hD hS hz hv
  refine lv_iand hx hb hd ?_
  have h := kk H locs ls hR hP hD hS hz hv
  rw [zI, zland, z_rt] at h
  exact h
theorem zu_dup {RR : Room} {QQ : State → Prop} {Γ : zG} {μ : zMc} (C : zC Γ μ) {κ : Nat × Nat × Nat} {pc : Nat} {L : List (Nat × Value)} {st : List Value} {M : zM} {v : Value} (hc : v.category = 1) (hd : decode μ.1 pc = .ok (.dup, 1)) (kk : zU RR QQ Γ μ κ (pc + 1) L (v :: v :: st) M) : zU RR QQ Γ μ κ pc L (v :: st) M := by
  obtain ⟨p, l, e, s, m, args, below, meth, c, D, cA, ad, A, t1, t2, P⟩ := Γ
  obtain ⟨⟨hx, hb, hml, hown, hts⟩, hr, hlk, hK, hA, hSt, hNs⟩ := C
  intro H locs ls hR hP hD hS hz hv
  exact lv_dup hx hb hd hc (kk H locs ls hR hP hD hS hz hv)
theorem zu_pop {RR : Room} {QQ : State → Prop} {Γ : zG} {μ : zMc} (C : zC Γ μ) {κ : Nat × Nat × Nat} {pc : Nat} {L : List (Nat × Value)} {st : List Value} {M : zM} {v : Value} (hc : v.category = 1) (hd : decode μ.1 pc = .ok (.pop, 1)) (kk : zU RR QQ Γ μ κ (pc + 1) L st M) : zU RR QQ Γ μ κ pc L (v :: st) M := by
  obtain ⟨p, l, e, s, m, args, below, meth, c, D, cA, ad, A, t1, t2, P⟩ := Γ
  obtain ⟨⟨hx, hb, hml, hown, hts⟩, hr, hlk, hK, hA, hSt, hNs⟩ := C
  intro H locs ls hR hP hD hS hz hv
  exact lv_pop hx hb hd hc (kk H locs ls hR hP hD hS hz hv)
theorem zu_goto {RR : Room} {QQ : State → Prop} {Γ : zG} {μ : zMc} (C : zC Γ μ) {κ : Nat × Nat × Nat} {pc : Nat} {L : List (Nat × Value)} {st : List Value} {M : zM} {off : Int} {tgt : Nat} (hd : decode μ.1 pc = .ok (.goto off, 3)) (ht : (pc : Int) + off = (tgt : Int)) (kk : zU RR QQ Γ μ κ (tgt) L st M) : zU RR QQ Γ μ κ pc L st M := by
  obtain ⟨p, l, e, s, m, args, below, meth, c, D, cA, ad, A, t1, t2, P⟩ := Γ
  obtain ⟨⟨hx, hb, hml, hown, hts⟩, hr, hlk, hK, hA, hSt, hNs⟩ := C
  intro H locs ls hR hP hD hS hz hv
  exact lv_goto hx hb hd ht (kk H locs ls hR hP hD hS hz hv)
theorem zu_if_eq {RR : Room} {QQ : State → Prop} {Γ : zG} {μ : zMc} (C : zC Γ μ) {κ : Nat × Nat × Nat} {pc : Nat} {L : List (Nat × Value)} {st : List Value} {M : zM} {x : Int} {off : Int} {tgt : Nat} (h1 : zin x) (hd : decode μ.1 pc = .ok (.ifCond .eq off, 3)) (ht : (pc : Int) + off = (tgt : Int)) (kt : x = 0 → zU RR QQ Γ μ κ (tgt) L st M) (kf : ¬ (x = 0) → zU RR QQ Γ μ κ (pc + 3) L st M) : zU RR QQ Γ μ κ pc L (zI x :: st) M := by
  obtain ⟨p, l, e, s, m, args, below, meth, c, D, cA, ad, A, t1, t2, P⟩ := Γ
  obtain ⟨⟨hx, hb, hml, hown, hts⟩, hr, hlk, hK, hA, hSt, hNs⟩ := C
  intro H locs ls hR hP hD hS hz hv
  exact lv_if_eq hx hb hd ht (fun g => kt ((z_eq h1 (show zin (0 : Int) by decide)).mp g) H locs ls hR hP hD hS hz hv) (fun g => kf (fun q => g ((z_eq h1 (show zin (0 : Int) by decide)).mpr q)) H locs ls hR hP hD hS hz hv)
theorem zu_if_ne {RR : Room} {QQ : State → Prop} {Γ : zG} {μ : zMc} (C : zC Γ μ) {κ : Nat × Nat × Nat} {pc : Nat} {L : List (Nat × Value)} {st : List Value} {M : zM} {x : Int} {off : Int} {tgt : Nat} (h1 : zin x) (hd : decode μ.1 pc = .ok (.ifCond .ne off, 3)) (ht : (pc : Int) + off = (tgt : Int)) (kt : x ≠ 0 → zU RR QQ Γ μ κ (tgt) L st M) (kf : x = 0 → zU RR QQ Γ μ κ (pc + 3) L st M) : zU RR QQ Γ μ κ pc L (zI x :: st) M := by
  obtain ⟨p, l, e, s, m, args, below, meth, c, D, cA, ad, A, t1, t2, P⟩ := Γ
  obtain ⟨⟨hx, hb, hml, hown, hts⟩, hr, hlk, hK, hA, hSt, hNs⟩ := C
  intro H locs ls hR hP hD hS hz hv
  refine lv_if_ne hx hb hd ht (fun g => kt (fun q => g ?_) H locs ls hR hP hD hS hz hv) (fun g => kf ?_ H locs ls hR hP hD hS hz hv)
  · exact (z_eq h1 (show zin (0 : Int) by decide)).mpr q
  · exact (z_eq h1 (show zin (0 : Int) by decide)).mp g
theorem zu_icmp_eq {RR : Room} {QQ : State → Prop} {Γ : zG} {μ : zMc} (C : zC Γ μ) {κ : Nat × Nat × Nat} {pc : Nat} {L : List (Nat × Value)} {st : List Value} {M : zM} {x y : Int} {off : Int} {tgt : Nat} (h1 : zin x) (h2 : zin y) (hd : decode μ.1 pc = .ok (.if_icmp .eq off, 3)) (ht : (pc : Int) + off = (tgt : Int)) (kt : x = y → zU RR QQ Γ μ κ (tgt) L st M) (kf : ¬ (x = y) → zU RR QQ Γ μ κ (pc + 3) L st M) : zU RR QQ Γ μ κ pc L (zI y :: zI x :: st) M := by
  obtain ⟨p, l, e, s, m, args, below, meth, c, D, cA, ad, A, t1, t2, P⟩ := Γ
  obtain ⟨⟨hx, hb, hml, hown, hts⟩, hr, hlk, hK, hA, hSt, hNs⟩ := C
  intro H locs ls hR hP hD hS hz hv
  exact lv_icmp_eq hx hb hd ht (fun g => kt ((z_eq h1 h2).mp g) H locs ls hR hP hD hS hz hv) (fun g => kf (fun q => g ((z_eq h1 h2).mpr q)) H locs ls hR hP hD hS hz hv)
theorem zu_icmp_ne {RR : Room} {QQ : State → Prop} {Γ : zG} {μ : zMc} (C : zC Γ μ) {κ : Nat × Nat × Nat} {pc : Nat} {L : List (Nat × Value)} {st : List Value} {M : zM} {x y : Int} {off : Int} {tgt : Nat} (h1 : zin x) (h2 : zin y) (hd : decode μ.1 pc = .ok (.if_icmp .ne off, 3)) (ht : (pc : Int) + off = (tgt : Int)) (kt : x ≠ y → zU RR QQ Γ μ κ (tgt) L st M) (kf : x = y → zU RR QQ Γ μ κ (pc + 3) L st M) : zU RR QQ Γ μ κ pc L (zI y :: zI x :: st) M := by
  obtain ⟨p, l, e, s, m, args, below, meth, c, D, cA, ad, A, t1, t2, P⟩ := Γ
  obtain ⟨⟨hx, hb, hml, hown, hts⟩, hr, hlk, hK, hA, hSt, hNs⟩ := C
  intro H locs ls hR hP hD hS hz hv
  refine lv_icmp_ne hx hb hd ht (fun g => kt (fun q => g ?_) H locs ls hR hP hD hS hz hv) (fun g => kf ?_ H locs ls hR hP hD hS hz hv)
  · exact (z_eq h1 h2).mpr q
  · exact (z_eq h1 h2).mp g
theorem zu_icmp_lt {RR : Room} {QQ : State → Prop} {Γ : zG} {μ : zMc} (C : zC Γ μ) {κ : Nat × Nat × Nat} {pc : Nat} {L : List (Nat × Value)} {st : List Value} {M : zM} {x y : Int} {off : Int} {tgt : Nat} (h1 : zin x) (h2 : zin y) (hd : decode μ.1 pc = .ok (.if_icmp .lt off, 3)) (ht : (pc : Int) + off = (tgt : Int)) (kt : x < y → zU RR QQ Γ μ κ (tgt) L st M) (kf : ¬ (x < y) → zU RR QQ Γ μ κ (pc + 3) L st M) : zU RR QQ Γ μ κ pc L (zI y :: zI x :: st) M := by
  obtain ⟨p, l, e, s, m, args, below, meth, c, D, cA, ad, A, t1, t2, P⟩ := Γ
  obtain ⟨⟨hx, hb, hml, hown, hts⟩, hr, hlk, hK, hA, hSt, hNs⟩ := C
  intro H locs ls hR hP hD hS hz hv
  exact lv_icmp_lt hx hb hd ht (fun g => kt ((z_lt h1 h2).mp g) H locs ls hR hP hD hS hz hv) (fun g => kf (fun q => g ((z_lt h1 h2).mpr q)) H locs ls hR hP hD hS hz hv)
theorem zu_icmp_ge {RR : Room} {QQ : State → Prop} {Γ : zG} {μ : zMc} (C : zC Γ μ) {κ : Nat × Nat × Nat} {pc : Nat} {L : List (Nat × Value)} {st : List Value} {M : zM} {x y : Int} {off : Int} {tgt : Nat} (h1 : zin x) (h2 : zin y) (hd : decode μ.1 pc = .ok (.if_icmp .ge off, 3)) (ht : (pc : Int) + off = (tgt : Int)) (kt : y ≤ x → zU RR QQ Γ μ κ (tgt) L st M) (kf : ¬ (y ≤ x) → zU RR QQ Γ μ κ (pc + 3) L st M) : zU RR QQ Γ μ κ pc L (zI y :: zI x :: st) M := by
  obtain ⟨p, l, e, s, m, args, below, meth, c, D, cA, ad, A, t1, t2, P⟩ := Γ
  obtain ⟨⟨hx, hb, hml, hown, hts⟩, hr, hlk, hK, hA, hSt, hNs⟩ := C
  intro H locs ls hR hP hD hS hz hv
  exact lv_icmp_ge hx hb hd ht (fun g => kt ((z_le h2 h1).mp g) H locs ls hR hP hD hS hz hv) (fun g => kf (fun q => g ((z_le h2 h1).mpr q)) H locs ls hR hP hD hS hz hv)
theorem zu_icmp_gt {RR : Room} {QQ : State → Prop} {Γ : zG} {μ : zMc} (C : zC Γ μ) {κ : Nat × Nat × Nat} {pc : Nat} {L : List (Nat × Value)} {st : List Value} {M : zM} {x y : Int} {off : Int} {tgt : Nat} (h1 : zin x) (h2 : zin y) (hd : decode μ.1 pc = .ok (.if_icmp .gt off, 3)) (ht : (pc : Int) + off = (tgt : Int)) (kt : y < x → zU RR QQ Γ μ κ (tgt) L st M) (kf : ¬ (y < x) → zU RR QQ Γ μ κ (pc + 3) L st M) : zU RR QQ Γ μ κ pc L (zI y :: zI x :: st) M := by
  obtain ⟨p, l, e, s, m, args, below, meth, c, D, cA, ad, A, t1, t2, P⟩ := Γ
  obtain ⟨⟨hx, hb, hml, hown, hts⟩, hr, hlk, hK, hA, hSt, hNs⟩ := C
  intro H locs ls hR hP hD hS hz hv
  exact lv_icmp_gt hx hb hd ht (fun g => kt ((z_lt h2 h1).mp g) H locs ls hR hP hD hS hz hv) (fun g => kf (fun q => g ((z_lt h2 h1).mpr q)) H locs ls hR hP hD hS hz hv)
theorem zu_icmp_le {RR : Room} {QQ : State → Prop} {Γ : zG} {μ : zMc} (C : zC Γ μ) {κ : Nat × Nat × Nat} {pc : Nat} {L : List (Nat × Value)} {st : List Value} {M : zM} {x y : Int} {off : Int} {tgt : Nat} (h1 : zin x) (h2 : zin y) (hd : decode μ.1 pc = .ok (.if_icmp .le off, 3)) (ht : (pc : Int) + off = (tgt : Int)) (kt : x ≤ y → zU RR QQ Γ μ κ (tgt) L st M) (kf : ¬ (x ≤ y) → zU RR QQ Γ μ κ (pc + 3) L st M) : zU RR QQ Γ μ κ pc L (zI y :: zI x :: st) M := by
  obtain ⟨p, l, e, s, m, args, below, meth, c, D, cA, ad, A, t1, t2, P⟩ := Γ
  obtain ⟨⟨hx, hb, hml, hown, hts⟩, hr, hlk, hK, hA, hSt, hNs⟩ := C
  intro H locs ls hR hP hD hS hz hv
  exact lv_icmp_le hx hb hd ht (fun g => kt ((z_le h1 h2).mp g) H locs ls hR hP hD hS hz hv) (fun g => kf (fun q => g ((z_le h1 h2).mpr q)) H locs ls hR hP hD hS hz hv)
theorem zu_lcmp_eq {RR : Room} {QQ : State → Prop} {Γ : zG} {μ : zMc} (C : zC Γ μ) {κ : Nat × Nat × Nat} {pc : Nat} {L : List (Nat × Value)} {st : List Value} {M : zM} {x y : Int} {off : Int} {tgt : Nat} (h1 : zin64 x) (h2 : zin64 y) (hd : decode μ.1 pc = .ok (.lcmp, 1)) (hd2 : decode μ.1 (pc + 1) = .ok (.ifCond .eq off, 3)) (ht : ((pc + 1 : Nat) : Int) + off = (tgt : Int)) (kt : x = y → zU RR QQ Γ μ κ (tgt) L st M) (kf : ¬ (x = y) → zU RR QQ Γ μ κ (pc + 1 + 3) L st M) : zU RR QQ Γ μ κ pc L (zJ y :: zJ x :: st) M := by
  obtain ⟨p, l, e, s, m, args, below, meth, c, D, cA, ad, A, t1, t2, P⟩ := Γ
  obtain ⟨⟨hx, hb, hml, hown, hts⟩, hr, hlk, hK, hA, hSt, hNs⟩ := C
  intro H locs ls hR hP hD hS hz hv
  refine W.lcmp hx hb hd ?_
  rw [z_cmp h1 h2]
  have hq : zin (if y < x then (1 : Int) else if x = y then 0 else -1) := by
    unfold zin
    split
    · omega
    · split <;> omega
  refine zu_if_eq (Γ := (p, l, e, s, m, args, below, meth, c, D, cA, ad, A, t1, t2, P)) (L := L) (st := st) (M := M) (κ := κ) ⟨⟨hx, hb, hml, hown, hts⟩, hr, hlk, hK, hA, hSt, hNs⟩ hq hd2 ht (fun g => kt ?_) (fun g => kf ?_) H locs ls hR hP hD hS hz hv
  all_goals (split at g <;> first | omega | (split at g <;> omega))
theorem zu_lcmp_ne {RR : Room} {QQ : State → Prop} {Γ : zG} {μ : zMc} (C : zC Γ μ) {κ : Nat × Nat × Nat} {pc : Nat} {L : List (Nat × Value)} {st : List Value} {M : zM} {x y : Int} {off : Int} {tgt : Nat} (h1 : zin64 x) (h2 : zin64 y) (hd : decode μ.1 pc = .ok (.lcmp, 1)) (hd2 : decode μ.1 (pc + 1) = .ok (.ifCond .ne off, 3)) (ht : ((pc + 1 : Nat) : Int) + off = (tgt : Int)) (kt : x ≠ y → zU RR QQ Γ μ κ (tgt) L st M) (kf : x = y → zU RR QQ Γ μ κ (pc + 1 + 3) L st M) : zU RR QQ Γ μ κ pc L (zJ y :: zJ x :: st) M := by
  obtain ⟨p, l, e, s, m, args, below, meth, c, D, cA, ad, A, t1, t2, P⟩ := Γ
  obtain ⟨⟨hx, hb, hml, hown, hts⟩, hr, hlk, hK, hA, hSt, hNs⟩ := C
  intro H locs ls hR hP hD hS hz hv
  refine W.lcmp hx hb hd ?_
  rw [z_cmp h1 h2]
  have hq : zin (if y < x then (1 : Int) else if x = y then 0 else -1) := by
    unfold zin
    split
    · omega
    · split <;> omega
  refine zu_if_ne (Γ := (p, l, e, s, m, args, below, meth, c, D, cA, ad, A, t1, t2, P)) (L := L) (st := st) (M := M) (κ := κ) ⟨⟨hx, hb, hml, hown, hts⟩, hr, hlk, hK, hA, hSt, hNs⟩ hq hd2 ht (fun g => kt ?_) (fun g => kf ?_) H locs ls hR hP hD hS hz hv
  all_goals (split at g <;> first | omega | (split at g <;> omega))
theorem zu_tsin {RR : Room} {QQ : State → Prop} {Γ : zG} {μ : zMc} (C : zC Γ μ) {κ : Nat × Nat × Nat} {pc : Nat} {L : List (Nat × Value)} {st : List Value} {M : zM} {dflt lo hi : Int} {offs : Array Int} {len : Nat} {x off : Int} {tgt : Nat} (j : Nat) (g : x = lo + j) (h1 : zin x) (hhi : lo + j ≤ hi) (hd : decode μ.1 pc = .ok (.tableswitch dflt lo hi offs, len)) (ho : offs[j]? = some off) (ht : (pc : Int) + off = (tgt : Int)) (kk : zU RR QQ Γ μ κ tgt L st M) : zU RR QQ Γ μ κ pc L (zI x :: st) M := by
  obtain ⟨p, l, e, s, m, args, below, meth, c, D, cA, ad, A, t1, t2, P⟩ := Γ
  obtain ⟨⟨hx, hb, hml, hown, hts⟩, hr, hlk, hK, hA, hSt, hNs⟩ := C
  intro H locs ls hR hP hD hS hz hv
  refine lv_tableIn hx hb hd (by rw [z_tI h1]; omega) (by rw [z_tI h1]; omega) ?_ ht (kk H locs ls hR hP hD hS hz hv)
  rw [z_tI h1, show (x - lo).toNat = j by omega]
  exact ho
theorem zu_tsout {RR : Room} {QQ : State → Prop} {Γ : zG} {μ : zMc} (C : zC Γ μ) {κ : Nat × Nat × Nat} {pc : Nat} {L : List (Nat × Value)} {st : List Value} {M : zM} {dflt lo hi : Int} {offs : Array Int} {len : Nat} {x : Int} {tgt : Nat} (g : x < lo ∨ hi < x) (h1 : zin x) (hd : decode μ.1 pc = .ok (.tableswitch dflt lo hi offs, len)) (ht : (pc : Int) + dflt = (tgt : Int)) (kk : zU RR QQ Γ μ κ tgt L st M) : zU RR QQ Γ μ κ pc L (zI x :: st) M := by
  obtain ⟨p, l, e, s, m, args, below, meth, c, D, cA, ad, A, t1, t2, P⟩ := Γ
  obtain ⟨⟨hx, hb, hml, hown, hts⟩, hr, hlk, hK, hA, hSt, hNs⟩ := C
  intro H locs ls hR hP hD hS hz hv
  exact lv_tableOut hx hb hd (by rw [z_tI h1]; exact g) ht (kk H locs ls hR hP hD hS hz hv)
theorem zu_lald {RR : Room} {QQ : State → Prop} {Γ : zG} {μ : zMc} (C : zC Γ μ) {κ : Nat × Nat × Nat} {pc : Nat} {L : List (Nat × Value)} {st : List Value} {M : zM} {c i : Int} {len : Nat} (hf : zai μ.2.2.2.2.2.1 κ.1 c 15 len = true) (h0 : 0 ≤ i ∧ i < len) (hd : decode μ.1 pc = .ok (.laload, 1)) (kk : zU RR QQ Γ μ κ (pc + 1) L (zJ (M c i) :: st) M) : zU RR QQ Γ μ κ pc L (zI i :: zRf (zad Γ) c :: st) M := by
  obtain ⟨p, l, e, s, m, args, below, meth, cd, D, cA, ad, A, t1, t2, P⟩ := Γ
  obtain ⟨⟨hx, hb, hml, hown, hts⟩, hr, hlk, hK, hA, hSt, hNs⟩ := C
  intro H locs ls hR hP hD hS hz hv
  obtain ⟨f1, f2, f3, f4, f5⟩ := zai_s hf
  have hc2 : ((c.toNat : Nat) : Int) = c := Int.toNat_of_nonneg f1
  have hi2 : ((i.toNat : Nat) : Int) = i := Int.toNat_of_nonneg h0.1
  have he := zw_get (ad := ad) (cA := cA) (σ := μ.2.2.2.2.2.1) (M := M) f2
  have hvi : vp_in (Int32.ofInt i) len := z_in h0.1 h0.2 f5
  have hcl : (Int32.ofInt i).toNatClampNeg = i.toNat := z_cl h0.1 (by omega)
  rw [zent_j f3] at he
  refine va_lald hx hb hK hP c.toNat 2 he (by rfl) (by rw [f4]; exact hvi) hd ?_
  rw [hcl]
  have h := kk H locs ls hR hP hD hS hz hv
  rw [← hc2, ← hi2] at h
  exact h
theorem zu_last {RR : Room} {QQ : State → Prop} {Γ : zG} {μ : zMc} (C : zC Γ μ) {κ : Nat × Nat × Nat} {pc : Nat} {L : List (Nat × Value)} {st : List Value} {M : zM} {c i x : Int} {len : Nat} (hf : zai μ.2.2.2.2.2.1 κ.1 c 15 len = true) (h0 : 0 ≤ i ∧ i < len) (hzin : zin x) (hmc : μ.2.2.2.2.2.2.2.1 = 0) (hd : decode μ.1 pc = .ok (.lastore, 1)) (kk : ∀ M1, M1 = zset M c i x → zU RR QQ Γ μ κ (pc + 1) L st M1) : zU RR QQ Γ μ κ pc L (zJ x :: zI i :: zRf (zad Γ) c :: st) M := by
  obtain ⟨p, l, e, s, m, args, below, meth, cd, D, cA, ad, A, t1, t2, P⟩ := Γ
  obtain ⟨⟨hx, hb, hml, hown, hts⟩, hr, hlk, hK, hA, hSt, hNs⟩ := C
  intro H locs ls hR hP hD hS hz hv
  obtain ⟨f1, f2, f3, f4, f5⟩ := zai_s hf
  have hc2 : ((c.toNat : Nat) : Int) = c := Int.toNat_of_nonneg f1
  have hi2 : ((i.toNat : Nat) : Int) = i := Int.toNat_of_nonneg h0.1
  have he := zw_get (ad := ad) (cA := cA) (σ := μ.2.2.2.2.2.1) (M := M) f2
  have hvi : vp_in (Int32.ofInt i) len := z_in h0.1 h0.2 f5
  have hcl : (Int32.ofInt i).toNatClampNeg = i.toNat := z_cl h0.1 (by omega)
  rw [zent_j f3] at he
  have hfun : vp_updL (fun j : Nat => Int64.ofInt (M (c.toNat : Nat) j)) i.toNat (Int64.ofInt x) = fun j : Nat => Int64.ofInt (zset M c i x (c.toNat : Nat) j) := by
    funext j
    by_cases e : j = i.toNat
    · subst e
      rw [hc2, hi2, zset_s]
      simp [upd, vp_updL]
    · rw [zset_n M (Or.inr (by omega))]
      simp [upd, vp_updL, e]
  have hset : (zw ad cA μ.2.2.2.2.2.1 κ.1 M).set c.toNat (ad c.toNat, .inl (cA 2, μ.2.2.2.2.2.1.2.1 c.toNat, .inr (.inl (vp_updL (fun j : Nat => Int64.ofInt (M (c.toNat : Nat) j)) i.toNat (Int64.ofInt x))))) = zw ad cA μ.2.2.2.2.2.1 κ.1 (zset M c i x) :=
    zw_same (n := κ.1) f2 (M' := zset M c i x) (by rw [zent_j f3, ← hfun]) (fun c' i' q => zset_n M (Or.inl (by omega)))
  refine va_last hx hb hK hP hD hS c.toNat 2 he (by rfl) (by rw [f4]; exact hvi) hd ?_
  intro H1 locs1 hP hD hS
  rw [hcl] at hP hD
  exact kk _ rfl H1 locs1 ls (hR.set hzin c i) (hset ▸ hP) (hset ▸ hD) hS (fun g => absurd hmc g) hv
theorem zu_new {RR : Room} {QQ : State → Prop} {Γ : zG} {μ : zMc} (C : zC Γ μ) (hAd : ∀ j, μ.2.2.2.2.2.2.1 ≤ j → zad Γ j = Γ.2.2.2.1.heap.size + (j - μ.2.2.2.2.2.2.1)) {κ : Nat × Nat × Nat} (hn : κ.1 = μ.2.2.2.2.2.2.1 + κ.2.1) (hmc : μ.2.2.2.2.2.2.2.1 ≠ 0) {pc : Nat} {L : List (Nat × Value)} {st : List Value} {M : zM} {idx ci : Nat} {cn : String} {T : u_T} {N : Nat} (ty : Nat → FieldType) (hty : ∀ k, k < N → parseFieldDescriptor (T k).2.2.1 = some (ty k)) (hci : vwCl[ci]? = some (cn, T, N) ∧ ci < 13) (hN : N = znf ci) (hws : ∀ w ∈ u_ws cn T N, w ∈ zTG) (hlink : Cond.classLink μ.2.1 idx cn ∈ zTG) (hinst : Cond.instantiable cn N ∈ zTG) (hini : Cond.initialized cn ∈ zTG) (hk : μ.2.2.2.2.2.1.1 κ.1 = ci) (hfr : ∀ k : Nat, k < N → (μ.2.2.2.2.2.1.2.2 κ.1 k = 0 ∧ defaultValue (ty k) = .int 0 ∧ M κ.1 k = 0) ∨ (μ.2.2.2.2.2.1.2.2 κ.1 k = 1 ∧ defaultValue (ty k) = .null ∧ M κ.1 k = -1)) (hroom : κ.2.1 + 1 ≤ RR.cells ∧ κ.2.2 + N ≤ RR.slots) (hd : decode μ.1 pc = .ok (.new idx, 3)) (kk : zU RR QQ Γ μ (κ.1 + 1, κ.2.1 + 1, κ.2.2 + N) (pc + 3) L (zRf (zad Γ) (κ.1 : Nat) :: st) M) : zU RR QQ Γ μ κ pc L st M := by
  obtain ⟨p, l, e, s, m, args, below, meth, cd, D, cA, ad, A, t1, t2, P⟩ := Γ
  obtain ⟨⟨hx, hb, hml, hown, hts⟩, hr, hlk, hK, hA, hSt, hNs⟩ := C
  intro H locs ls hR hP hD hS hz hv
  have hsz := hz hmc
  have had : ad κ.1 = H.size := by
    have this : ad κ.1 = s.heap.size + (κ.1 - μ.2.2.2.2.2.2.1) := hAd κ.1 (by omega)
    omega
  have hKn := hK.1 ci _ hci.1
  refine W.newcK hx hb hown (hts _ hlink) (hts _ hinst) (hts _ hini) rfl hd hroom.1 hroom.2 hKn.2.1 rfl fun H1 kC hkC e1 z1 o1 => ?_
  have hk9 : ∀ (k : Nat) (x : Nat × va_E), (zw ad cA μ.2.2.2.2.2.1 κ.1 M)[k]? = some x → H1[x.1]? = H[x.1]? := fun k x hx => o1 x.1 ((hP k x hx).lt)
  have hent : zent ad cA μ.2.2.2.2.2.1 M κ.1 = .inr (ci, (List.range (znf ci)).map fun j => zsl ad (μ.2.2.2.2.2.1.2.2 κ.1 j) (M κ.1 j)) := zent_o hk hci.2
  have hfs : ∀ j, j < N → defaultValue (ty j) = vp_V ((List.range (znf ci)).map fun j => zsl ad (μ.2.2.2.2.2.1.2.2 κ.1 j) (M κ.1 j)) j := by
    intro j hj
    have hj2 : j < znf ci := hN ▸ hj
    have e : vp_V ((List.range (znf ci)).map fun j => zsl ad (μ.2.2.2.2.2.1.2.2 κ.1 j) (M κ.1 j)) j = zsl ad (μ.2.2.2.2.2.1.2.2 κ.1 j) (M κ.1 j) := by
      simp [vp_V, hj2]
    rw [e]
    rcases hfr j hj with ⟨a, b, c⟩ | ⟨a, b, c⟩
    · rw [a, b, c]; rfl
    · rw [a, b, c]; rfl
  have hP1 : va_P D vwCl (zw ad cA μ.2.2.2.2.2.1 (κ.1 + 1) M) H1 := by
    rw [← zw_push, had]
    refine (hP.kept hk9).app (fun k x hx => ?_)
    have hz0 : k < 1 := (List.getElem?_eq_some_iff.mp hx).1
    rw [show k = 0 by omega] at hx
    cases hx
    rw [hent]
    exact ⟨_, hci.1, (u_born ty hts hws hKn hkC e1 hty).to hfs⟩
  have hD1 : va_D A (zw ad cA μ.2.2.2.2.2.1 (κ.1 + 1) M) := by
    rw [← zw_push]
    exact hD.push hP had (by rw [had]; exact hA _ hS.1)
  have h := kk H1 locs ls hR hP1 hD1 ⟨Nat.le_trans hS.1 (by omega), fun x h1 h2 => (o1 x (Nat.lt_of_lt_of_le h1 hS.1)).trans (hS.2.1 x h1 h2), hS.2.2⟩ (fun _ => by rw [z1, hsz]; rfl) hv
  have e9 : zRf (zad (p, l, e, s, m, args, below, meth, cd, D, cA, ad, A, t1, t2, P)) ((κ.1 : Nat) : Int) = .ref H.size := by
    show Value.ref (ad ((κ.1 : Nat) : Int).toNat) = _
    rw [Int.toNat_natCast, had]
  rw [e9] at h
  exact h
theorem zu_newJ {RR : Room} {QQ : State → Prop} {Γ : zG} {μ : zMc} (C : zC Γ μ) (hAd : ∀ j, μ.2.2.2.2.2.2.1 ≤ j → zad Γ j = Γ.2.2.2.1.heap.size + (j - μ.2.2.2.2.2.2.1)) {κ : Nat × Nat × Nat} (hn : κ.1 = μ.2.2.2.2.2.2.1 + κ.2.1) (hmc : μ.2.2.2.2.2.2.2.1 ≠ 0) {pc : Nat} {L : List (Nat × Value)} {st : List Value} {M : zM} {len : Nat} (harr : Cond.arrayClass .long ∈ zTG) (hk : μ.2.2.2.2.2.1.1 κ.1 = 15) (hl : μ.2.2.2.2.2.1.2.1 κ.1 = len) (hlen : len < 1000000) (hfr : ∀ k : Nat, k < len → M κ.1 k = 0) (hroom : κ.2.1 + 1 ≤ RR.cells ∧ κ.2.2 + len ≤ RR.slots) (hd : decode μ.1 pc = .ok (.newarray .long, 2)) (kk : zU RR QQ Γ μ (κ.1 + 1, κ.2.1 + 1, κ.2.2 + len) (pc + 2) L (zRf (zad Γ) (κ.1 : Nat) :: st) M) : zU RR QQ Γ μ κ pc L (zI (len : Nat) :: st) M := by
  obtain ⟨p, l, e, s, m, args, below, meth, cd, D, cA, ad, A, t1, t2, P⟩ := Γ
  obtain ⟨⟨hx, hb, hml, hown, hts⟩, hr, hlk, hK, hA, hSt, hNs⟩ := C
  intro H locs ls hR hP hD hS hz hv
  have hsz := hz hmc
  have had : ad κ.1 = H.size := by
    have this : ad κ.1 = s.heap.size + (κ.1 - μ.2.2.2.2.2.2.1) := hAd κ.1 (by omega)
    omega
  have hn0 : ¬ Int32.ofInt (len : Nat) < 0 := fun q => by
    have := (z_lt (a := (len : Nat)) (b := 0) ⟨by omega, by omega⟩ (by decide)).mp q
    omega
  refine va_newaK hx hb (atype := .long) (hts _ harr) rfl hd rfl hn0 (N := len) (by rw [z_cl (by omega) (by omega)]; omega) (by show len * componentBytes .long ≤ 536870912; simp [componentBytes]; omega) hroom.1 hroom.2 rfl fun H1 c9 e1 z1 o1 hAr hNm => ?_
  have hc9 : c9 = cA 2 := zK_one hK (k := 2) (ty := .long) rfl (fun C q => by cases q) hNm
  subst hc9
  have hk9 : ∀ (k : Nat) (x : Nat × va_E), (zw ad cA μ.2.2.2.2.2.1 κ.1 M)[k]? = some x → H1[x.1]? = H[x.1]? := fun k x hx => o1 x.1 ((hP k x hx).lt)
  have hP1 : va_P D vwCl (zw ad cA μ.2.2.2.2.2.1 (κ.1 + 1) M) H1 := by
    rw [← zw_push, had]
    refine (hP.kept hk9).app (fun k x hx => ?_)
    have hz0 : k < 1 := (List.getElem?_eq_some_iff.mp hx).1
    rw [show k = 0 by omega] at hx
    cases hx
    rw [zent_j hk, hl]
    show H1[H.size]? = some (vp_cell _ _)
    rw [e1]
    congr 1
    refine (arrV_ext (g := fun j : Nat => Value.long (Int64.ofInt (M (κ.1 : Nat) j))) ?_).trans (vp_cell_l (cA 2) len (fun j : Nat => Int64.ofInt (M (κ.1 : Nat) j))).symm
    intro j hj
    show defaultValue .long = Value.long (Int64.ofInt (M (κ.1 : Nat) j))
    rw [hfr j hj]
    rfl
  have hD1 : va_D A (zw ad cA μ.2.2.2.2.2.1 (κ.1 + 1) M) := by
    rw [← zw_push]
    exact hD.push hP had (by rw [had]; exact hA _ hS.1)
  have h := kk H1 locs ls hR hP1 hD1 ⟨Nat.le_trans hS.1 (by omega), fun x h1 h2 => (o1 x (Nat.lt_of_lt_of_le h1 hS.1)).trans (hS.2.1 x h1 h2), hS.2.2⟩ (fun _ => by rw [z1, hsz]; rfl) hv
  have e9 : zRf (zad (p, l, e, s, m, args, below, meth, cd, D, cA, ad, A, t1, t2, P)) ((κ.1 : Nat) : Int) = .ref H.size := by
    show Value.ref (ad ((κ.1 : Nat) : Int).toNat) = _
    rw [Int.toNat_natCast, had]
  rw [e9] at h
  exact h
theorem zx_callU {RR : Room} {QQ : State → Prop} {Γ : zG} {μ : zMc} (C : zC Γ μ) {κ : Nat × Nat × Nat} {pc : Nat} {L : List (Nat × Value)} {st0 rest : List Value} {M : zM} {H : Heap} {locs : List Loc} {ls : Array Slot} {ret' : Option FieldType} {mc' ms' : Nat} {a : Array Value}
    (hR : zRng M) (hP : va_P Γ.2.2.2.2.2.2.2.2.2.1 vwCl (zw (zad Γ) Γ.2.2.2.2.2.2.2.2.2.2.1 μ.2.2.2.2.2.1 κ.1 M) H) (hD : va_D Γ.2.2.2.2.2.2.2.2.2.2.2.2.1 (zw (zad Γ) Γ.2.2.2.2.2.2.2.2.2.2.1 μ.2.2.2.2.2.1 κ.1 M)) (hS : va_S Γ.2.2.2.2.2.2.2.2.2.2.2.2.1 Γ.2.2.2.1.heap H locs) (hz : μ.2.2.2.2.2.2.2.1 ≠ 0 → H.size = Γ.2.2.2.1.heap.size + κ.2.1) (hv : lv_has ls μ.2.2.1 L) (hmm : μ.2.2.2.2.2.2.2.1 ≠ 0 → mc' ≠ 0)
    (hrun : va_Run Γ.1 Γ.2.1 Γ.2.2.1 RR Γ.2.2.2.1 Γ.2.2.2.2.1 Γ.2.2.2.2.2.1 Γ.2.2.2.2.2.2.1 Γ.2.2.2.2.2.2.2.1 Γ.2.2.2.2.2.2.2.2.1 H locs κ.2.1 κ.2.2 mc' ms' (F0 Γ.2.2.2.2.1 pc ls st0) rest (zQc ret' (fun r M' => zin r → zRng M' → zU RR QQ Γ μ (κ.1 + mc', κ.2.1 + mc', κ.2.2 + ms') (pc + 3) L ((zrv ret' (zad Γ) r).toList ++ rest) M') Γ.2.2.2.2.2.2.2.2.2.1 Γ.2.2.2.2.2.2.2.2.2.2.1 (zad Γ) μ.2.2.2.2.2.1 (κ.1 + mc') mc' (va_A (zw (zad Γ) Γ.2.2.2.2.2.2.2.2.2.2.1 μ.2.2.2.2.2.1 κ.1 M) H.size) a) (va_A (zw (zad Γ) Γ.2.2.2.2.2.2.2.2.2.2.1 μ.2.2.2.2.2.1 κ.1 M) H.size)) :
    W Γ.1 Γ.2.1 Γ.2.2.1 RR Γ.2.2.2.1 Γ.2.2.2.2.1 Γ.2.2.2.2.2.1 Γ.2.2.2.2.2.2.1 Γ.2.2.2.2.2.2.2.1 Γ.2.2.2.2.2.2.2.2.1 H locs κ.2.1 κ.2.2 QQ (F0 Γ.2.2.2.2.1 pc ls st0) := by
  obtain ⟨p, l, e, s, m, args, below, meth, c, D, cA, ad, A, t1, t2, P⟩ := Γ
  obtain ⟨⟨hx, hb, hml, hown, hts⟩, hr, hlk, hK, hA, hSt, hNs⟩ := C
  dsimp only at hP hD hS hz hrun ⊢
  have hf : ∀ q, va_A (zw ad cA μ.2.2.2.2.2.1 κ.1 M) H.size q → A q := by
    intro q h
    rcases h with ⟨k, e, h⟩ | h
    · exact hD.2 k _ h
    · exact hA q (Nat.le_trans hS.1 h)
  intro T hT X
  obtain ⟨v, st₀, t, T', L2, h0, X', hL, e1, e2, ⟨⟨r, M', hr0, hoc, hpost, hR', hP', hD', hz'⟩, hF⟩, st⟩ := hrun T hT X
  have hv2 : v = zrv ret' ad r := by cases hoc; rfl
  subst hv2
  have hF1 : H.size ≤ T'.heap.size := by rw [e1, ← h0]; exact hF.1
  have hF2 : ∀ q : Nat, q < H.size → ¬ va_A (zw ad cA μ.2.2.2.2.2.1 κ.1 M) H.size q → T'.heap[q]? = H[q]? := fun q a b => by rw [e1, ← h0]; exact hF.2 q (by rw [h0]; exact a) b
  obtain ⟨t2, a1, b1⟩ := hpost hr0 hR' T'.heap (locs ++ L2) ls hR' (by rw [e1]; exact hP') (hD'.weaken fun k q _ h => hf _ h)
    ⟨Nat.le_trans hS.1 hF1, fun q h1 h2 => by rw [hF2 q (Nat.lt_of_lt_of_le h1 hS.1) (fun z => h2 (hf q z))]; exact hS.2.1 q h1 h2, fun q hq => by
      rcases List.mem_append.mp hq with h | h
      · exact hS.2.2 q h
      · exact hf _ (hL q h)⟩ (fun g => by rw [e1, hz' (hmm g), h0, hz g]; show _ = s.heap.size + (κ.2.1 + mc'); omega) hv T' rfl X'
  exact ⟨t2, st t2 a1, b1⟩
theorem zu_callI {RR : Room} {QQ : State → Prop} {Γ : zG} {μ : zMc} (C : zC Γ μ) (hAd : ∀ j, μ.2.2.2.2.2.2.1 ≤ j → zad Γ j = Γ.2.2.2.1.heap.size + (j - μ.2.2.2.2.2.2.1)) {κ : Nat × Nat × Nat} (hn : κ.1 = μ.2.2.2.2.2.2.1 + κ.2.1) (hmc : μ.2.2.2.2.2.2.2.1 ≠ 0) {pc : Nat} {L : List (Nat × Value)} {M : zM} {rest st0 : List Value} {y : MethodName} {cc : ByteArray} {nL d idx na mc' ms' : Nat} {ats : List Nat} {F : zPT} (hmono : ∀ (xs : List Int) (P Q : Int → zM → Prop) (M : zM), (∀ r M1, P r M1 → r = 0 → Q r M1) → F xs P M → F xs Q M) (xs : List Int) {x0 : Int} (hS : zSnd μ.2.2.2.2.2.1 κ.1 mc' ms' y cc nL none d (2 :: ats) F) (hk : zCK μ.2.1 idx y cc nL none na) (hk2 : Cond.instanceMethod y ∈ zTG) (hy : y.name = "<init>") (hna : ats.length = na) (hst : st0 = (zargs (zad Γ) ats xs).reverse ++ zRf (zad Γ) x0 :: rest) (hd : decode μ.1 pc = .ok (.invokespecial idx, 3)) (hmc2 : mc' ≠ 0) (hroom : κ.2.1 + mc' ≤ RR.cells ∧ κ.2.2 + ms' ≤ RR.slots) (hdl : d + 1 ≤ RR.frames ∧ 8 + (nL + 11) + 60 * d ≤ RR.locals) (hrest : (rest.map fun v => v.category).sum ≤ 8) (hz0 : zall ats xs) (kk : F (x0 :: xs) (fun _ M1 => zRng M1 → zU RR QQ Γ μ (κ.1 + mc', κ.2.1 + mc', κ.2.2 + ms') (pc + 3) L rest M1) M) : zU RR QQ Γ μ κ pc L st0 M := by
  obtain ⟨hk, hini, hcode, hdesc⟩ := hk
  subst hst
  intro H locs ls hR hP hD hS0 hz hv
  have hsz := hz hmc
  have hzz : zall (2 :: ats) (x0 :: xs) := ⟨fun q => absurd rfl q, hz0⟩
  have had : ∀ j, κ.1 ≤ j → zad Γ j = H.size + (j - κ.1) := fun j hj => by
    refine (hAd j (by omega)).trans ?_
    rw [hsz, Nat.add_assoc]
    exact congrArg _ (by omega)
  have hM := hS Γ.2.1 Γ.2.2.2.2.2.2.2.2.2.1 Γ.2.2.2.2.2.2.2.2.2.2.1 (zad Γ) (zt1 Γ) (zt2 Γ) (x0 :: xs) (fun r0 M1 => zin r0 → zRng M1 → zU RR QQ Γ μ (κ.1 + mc', κ.2.1 + mc', κ.2.2 + ms') (pc + 3) L rest M1) M H.size hzz (hmono _ _ _ _ (fun r M1 q _ _ => q) kk)
  have hpre := zx_pre C (κ := κ) (av := zargs (zad Γ) (2 :: ats) (x0 :: xs)) (mc' := mc') hR hP hD hS0 (fun _ => had)
  have hcall := fun hrun => zx_callU (RR := RR) (QQ := QQ) C (κ := κ) (pc := pc) (L := L) (st0 := (zargs (zad Γ) ats xs).reverse ++ zRf (zad Γ) x0 :: rest) (rest := rest) (ret' := none) (mc' := mc') (ms' := ms') (a := (zargs (zad Γ) (2 :: ats) (x0 :: xs)).toArray) hR hP hD hS0 hz hv (fun _ => hmc2) hrun
  obtain ⟨p, l, e, s, m, args, below, meth, c, D, cA, ad, A, t1, t2, P⟩ := Γ
  obtain ⟨⟨hx, hb, hml, hown, hts⟩, hr, hlk, hK, hA, hSt, hNs⟩ := C
  have hRm : (zRm d mc' ms').frames + 1 ≤ RR.frames ∧ 8 + (nL + 11) + (zRm d mc' ms').locals ≤ RR.locals := by
    exact ⟨hdl.1, hdl.2⟩
  have hlenA : (zargs ad ats xs).length = na := (zargs_len ad ats xs hz0).trans hna
  refine hcall ?_
  rcases hk with hl | ⟨host, hl⟩
  · exact va_runI (As := zargs ad ats xs) (rest := rest) ⟨hx, hb, hml, hown, hts⟩ hM ⟨callB_of na hts (zTG_code hcode) rfl rfl rfl (hts _ hini) (hts _ hl) hdesc hRm, hy, hts _ hk2⟩ ⟨zBlind, hpre⟩ rfl hlenA hv.1 rfl (lv_room hrest) hd hroom
  · exact va_runIN (As := zargs ad ats xs) (rest := rest) ⟨hx, hb, hml, hown, hts⟩ hM ⟨va_cnB na hts (zTG_code hcode) rfl rfl rfl (hNs.1 _ hl) (hts _ hini) hdesc hRm, hy, hts _ hk2⟩ ⟨zBlind, hpre⟩ rfl hlenA hv.1 rfl (lv_room hrest) hd hroom
theorem zu_callV {RR : Room} {QQ : State → Prop} {Γ : zG} {μ : zMc} (C : zC Γ μ) {κ : Nat × Nat × Nat} {pc : Nat} {L : List (Nat × Value)} {rest st0 : List Value} {M : zM} {y : MethodName} {cc : ByteArray} {nL : Nat} {ret : Option FieldType} {d : Nat} {ats : List Nat} {F : zPT} {idx na : Nat} (xs : List Int) {x0 : Int} {ci : Nat} {T : u_T} {N : Nat} (hS : zSnd μ.2.2.2.2.2.1 κ.1 0 0 y cc nL ret d (2 :: ats) F) (hk : zCK μ.2.1 idx y cc nL ret na) (hk2 : Cond.instanceMethod y ∈ zTG ∧ Cond.selects y.cls y y ∈ zTG) (hci : vwCl[ci]? = some (y.cls, T, N) ∧ ci < 13) (hf : 0 ≤ x0 ∧ x0.toNat < κ.1 ∧ μ.2.2.2.2.2.1.1 x0.toNat = ci) (hna : ats.length = na) (hst : st0 = (zargs (zad Γ) ats xs).reverse ++ zRf (zad Γ) x0 :: rest) (hd : decode μ.1 pc = .ok (.invokevirtual idx, 3)) (hmc : μ.2.2.2.2.2.2.2.1 = 0 ∧ κ.2.1 ≤ RR.cells ∧ κ.2.2 ≤ RR.slots) (hdl : d + 1 ≤ RR.frames ∧ 8 + (nL + 11) + 60 * d ≤ RR.locals) (hrest : (rest.map fun v => v.category).sum ≤ 8) (hz0 : zall ats xs) (kk : F (x0 :: xs) (fun r M1 => zin r → zRng M1 → zU RR QQ Γ μ κ (pc + 3) L ((zrv ret (zad Γ) r).toList ++ rest) M1) M) : zU RR QQ Γ μ κ pc L st0 M := by
  obtain ⟨hk, hini, hcode, hdesc⟩ := hk
  subst hst
  intro H locs ls hR hP hD hS0 hz hv
  have hzz : zall (2 :: ats) (x0 :: xs) := ⟨fun q => absurd rfl q, hz0⟩
  have hM := hS Γ.2.1 Γ.2.2.2.2.2.2.2.2.2.1 Γ.2.2.2.2.2.2.2.2.2.2.1 (zad Γ) (zt1 Γ) (zt2 Γ) (x0 :: xs) _ M H.size hzz kk
  have hpre := zx_pre C (κ := κ) (av := zargs (zad Γ) (2 :: ats) (x0 :: xs)) (mc' := 0) hR hP hD hS0 (fun q => absurd rfl q)
  have hcall := fun hrun => zx_callU (RR := RR) (QQ := QQ) C (κ := κ) (pc := pc) (L := L) (st0 := (zargs (zad Γ) ats xs).reverse ++ zRf (zad Γ) x0 :: rest) (rest := rest) (ret' := ret) (mc' := 0) (ms' := 0) (a := (zargs (zad Γ) (2 :: ats) (x0 :: xs)).toArray) hR hP hD hS0 hz hv (fun g => absurd hmc.1 g) hrun
  obtain ⟨p, l, e, s, m, args, below, meth, c, D, cA, ad, A, t1, t2, P⟩ := Γ
  obtain ⟨⟨hx, hb, hml, hown, hts⟩, hr, hlk, hK, hA, hSt, hNs⟩ := C
  have he := zw_get (ad := ad) (cA := cA) (σ := μ.2.2.2.2.2.1) (M := M) hf.2.1
  rw [zent_o hf.2.2 hci.2] at he
  have hRm : (zRm d 0 0).frames + 1 ≤ RR.frames ∧ 8 + (nL + 11) + (zRm d 0 0).locals ≤ RR.locals := by
    exact ⟨hdl.1, hdl.2⟩
  have hcs : κ.2.1 + 0 ≤ RR.cells ∧ κ.2.2 + 0 ≤ RR.slots := ⟨hmc.2.1, hmc.2.2⟩
  have hlenA : (zargs ad ats xs).length = na := (zargs_len ad ats xs hz0).trans hna
  refine hcall ?_
  rcases hk with hl | ⟨host, hl⟩
  · exact va_runV (As := zargs ad ats xs) (rest := rest) ⟨hx, hb, hml, hown, hts⟩ hM ⟨callB_of na hts (zTG_code hcode) rfl rfl rfl (hts _ hini) (hts _ hl) hdesc hRm, hts _ hk2.1, hts _ hk2.2⟩ ⟨zBlind, va_recv hK hP hci.1 he, hpre⟩ rfl hlenA hv.1 rfl (lv_room hrest) hd hcs
  · exact va_runVN (As := zargs ad ats xs) (rest := rest) ⟨hx, hb, hml, hown, hts⟩ hM ⟨va_cnB na hts (zTG_code hcode) rfl rfl rfl (hNs.1 _ hl) (hts _ hini) hdesc hRm, hts _ hk2.1, hts _ hk2.2⟩ ⟨zBlind, va_recv hK hP hci.1 he, hpre⟩ rfl hlenA hv.1 rfl (lv_room hrest) hd hcs
