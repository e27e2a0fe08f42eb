/-! THE CLAIM OUT OF ONE WALK OF THE LAW'S BODY. Your part is whole_start (and what it stands on); all else here is the same for every law, but numbers. -/
def R_law : String := "DotLinesLaw"
def lw_P (b : Addr) (xs : List Int32) (args : Array Value) (s : State) : Prop := args = #[.ref b] ∧ s.IntsAt b xs ∧ xs.length ≤ 3072 ∧ (Jvm.Cond.and given_1 narrow_1).before args s = true
def lw_Q (_ : Array Value) (s : State) (o : Outcome) (t : State) : Prop := o = .returned (some (.int 1)) ∧ Framed s o t [] 601024 7293034
def lw_Z (below : List Frame) (a : Array Value) (s : State) : State → Prop := fun t => ∃ o, t.status = .running ∧ Ended t below o ∧ lw_Q a s o t
/-- the law's own end, with 1 on the stack, nothing written that was there before, its room as the claim has it -/
theorem lw_ret {p : Program} {l : Launch} {e : Env} {s : State} {m : MethodId} {below : List Frame} {meth : Method} {c : Code} {b : Nat} (hx : p.tables.exec = Jvm.exec) (hb : c.code = code) (hr : meth.sig.returnType = ret) (hlocks : meth.locks = false) {pc : Nat} {H : Heap} {ls : Array Slot} (hdg : decode code pc = .ok (.ireturn, 1)) : W p l e room_1 s m #[Value.ref b] below meth c H [] 601024 7293034 (lw_Z below #[Value.ref b] s) (F0 m pc ls [.int 1]) := by
  intro T hT X
  obtain ⟨fs, hret, hrun, hended, hW, hframe⟩ := X.leave (v := some (.int 1)) (hlocks := hlocks) (fun h => by rw [hr] at h; cases h)
  have hmeth' : T.vm.method? m = some meth := X.method'
  refine ⟨T.setFrames fs, ?_, .returned (some (.int 1)), hrun, hended, rfl, ⟨_, rfl⟩, hW, hframe⟩
  jvm_step X.here [X.here.top, hx, hb, hdg, hmeth', hr, ret, narrow_b1]
  (try refine ⟨rfl, ?_⟩); (try refine ⟨rfl, ?_⟩)
  first | (intro acts; rw [hret _ acts rfl rfl rfl]) | rw [hret _ _ rfl rfl rfl]
  exact Steps.refl _
/-- what holds at the law's entry: the machine, the code, the tables' words (any of lw_tbl by 'hts w (by decide +kernel)'), the script of L ints xs at the cell b, what the Statement gives of the start (any of its parts by flat_of_before) -/
def lw_At (p : Program) (s : State) (m : MethodId) (meth : Method) (c : Code) (b L : Nat) (xs : Nat → Int32) : Prop :=
  p.tables.exec = Jvm.exec ∧ c.code = code ∧ meth.sig.returnType = ret ∧ c.maxLocals = 8 ∧ s.vm.findClass R_law = some m.cls ∧ (∀ w ∈ lw_tbl, w.before #[Value.ref b] s = true) ∧ va_X b L xs s s.heap ∧ b < s.heap.size ∧ meth.locks = false ∧ (Jvm.Cond.and given_1 narrow_1).before #[Value.ref b] s = true
theorem lw_fin {Γ : zG} {b : Nat} (C : zC Γ mcL) (hA : ∀ q, Γ.2.2.2.2.2.2.2.2.2.2.2.2.1 q → Γ.2.2.2.1.heap.size ≤ q) (ha : Γ.2.2.2.2.2.1 = #[Value.ref b]) (i : Int) (k n : Nat) (M : zM) (hkn : k ≤ 601024 ∧ n ≤ 7293034) : zU room_1 (lw_Z Γ.2.2.2.2.2.2.1 #[Value.ref b] Γ.2.2.2.1) Γ mcL (145, k, n) 1705 (lwL Γ b i) [] M := by
  refine zu_iconst C (zdec_at dm_Lt 2 rfl) ?_
  obtain ⟨p, l, e, s, m, args, below, meth, c, D, cA, ad, A, t1, t2, P⟩ := Γ
  obtain ⟨⟨hx, hb, hml, hown, hts⟩, hr, hlk, hK, hA0, hSt, hNs⟩ := C
  dsimp only at ha hA ⊢
  subst ha
  intro H locs ls hR hP hD hS hz hv
  refine va_forget (fun q hq => hA _ (hS.2.2 q hq)) ?_
  refine W.widen (k := 601024) (n := 7293034) hkn.1 hkn.2 ?_
  exact lw_ret hx hb hr hlk (zdec_at dm_Lt 3 rfl)
theorem lw_start {p : Program} {e : Env} {s : State} {m : MethodId} {below : List Frame} {meth : Method} {c : Code} (l : Launch) {b L : Nat} {xs : Nat → Int32} (hL : L ≤ 3072) (C0 : lw_At p s m meth c b L xs) (el : ∀ Γ : zG, zC Γ mcL → lwX Γ b L xs → Γ.2.1 = l → Γ.2.2.2.1 = s → Γ.2.2.2.2.2.2.2.2.2.2.2.2.1 = (fun q => s.heap.size ≤ q) → lwEl (lw_Z below #[Value.ref b] s) Γ b L) : W p l e room_1 s m #[Value.ref b] below meth c s.heap [] 0 0 (lw_Z below #[Value.ref b] s) (entryFrame m ([Value.ref b] : List Value).toArray 8) := by
  obtain ⟨hx, hb, hr, hml, hown, hts, hX, hbl, hlocks, hgv⟩ := id C0
  have ht : ∀ w ∈ zTG, w.before #[Value.ref b] s = true := fun w hw => hts w (List.mem_filter.mp hw).1
  obtain ⟨dC, dI, hKc⟩ := zKn_of ht
  obtain ⟨cA, hAr⟩ := zAr_of hts
  obtain ⟨t1, t2, hSt⟩ := zStat_of (A := fun q => s.heap.size ≤ q) hts hgv (fun a h => Nat.not_le.mpr h)
  have hNs := zNst_of hts
  obtain ⟨Γ, eΓ⟩ : ∃ Γ : zG, Γ = (p, l, e, s, m, #[Value.ref b], below, meth, c, (dC, dI), cA, (fun j => s.heap.size + j), (fun q => s.heap.size ≤ q), t1, t2, fun _ _ => True) := ⟨_, rfl⟩
  have C : zC Γ mc0 := by rw [eΓ]; exact ⟨⟨hx, hb, hml, hown, ht⟩, hr, hlocks, ⟨hKc, hAr⟩, fun q h => h, hSt, hNs⟩
  have C2 : zC Γ mcL := by rw [eΓ] at C ⊢; exact C
  have X : lwX Γ b L xs := by rw [eΓ]; exact ⟨hX, hbl, Nat.not_le.mpr hbl, hL⟩
  have el9 := el Γ C2 X (by rw [eΓ]) (by rw [eΓ]) (by rw [eΓ])
  have fin : ∀ (i : Int) (k n : Nat) (M : zM), k ≤ 601024 ∧ n ≤ 7293034 → zU room_1 (lw_Z below #[Value.ref b] s) Γ mcL (145, k, n) 1705 (lwL Γ b i) [] M := fun i k n M hkn => by
    have h := lw_fin (b := b) C2 (fun q h => by rw [eΓ] at h ⊢; exact h) (by rw [eΓ]) i k n M hkn
    rw [eΓ] at h ⊢
    exact h
  have key : zU room_1 (lw_Z below #[Value.ref b] s) Γ mc0 (0, 0, 0) 0 [(0, Value.ref b)] [] M00 := by
    refine lw_made C (fun j _ => by rw [eΓ]; rfl) M00_f (fun _ => ?_)
    exact zu_shape i0_Fx (lw_loop C2 X el9 fin L 0 0 145 1232198 MI0 (by decide) rfl (by omega) (by omega) (by decide) (by decide) i0_zJn)
  rw [eΓ] at key
  rw [lg_entry_eq]
  have hl := lv_entry [Value.ref b] (n := 8) (Nat.le_of_ble_eq_true rfl)
  generalize (lg_sl [Value.ref b] ++ List.replicate (8 - (lg_sl [Value.ref b]).length) Slot.unset).toArray = ls at hl ⊢
  exact key s.heap [] ls M00_r (fun k q h => by simp [zw] at h) ⟨fun i j p q h => by simp [zw] at h, fun k q h => by simp [zw] at h⟩ va_S.rf (fun _ => rfl) hl
