abbrev mF3 (c i : Int) : Prop := (117 ≤ c ∧ c ≤ 120) ∨ c = 132 ∨ c = 133 ∨ (c = 103 ∧ (i = 23 ∨ i = 24 ∨ (31 ≤ i ∧ i ≤ 40) ∨ i = 60 ∨ i = 62 ∨ i = 64))
theorem mC.f3 {M M' : zM} (H : mC M) (hf : ∀ c i, ¬ mF3 c i → M' c i = M c i) (h : 0 ≤ M' 103 23 ∧ M' 103 23 ≤ M 103 22) : mC M' := by
  have e1 := hf 103 21 (by omega)
  have e2 := hf 103 22 (by omega)
  have e3 := hf 103 58 (by omega)
  have e4 := hf 103 59 (by omega)
  have e5 := hf 103 30 (by omega)
  obtain ⟨a, b, c, d⟩ := H
  refine ⟨by rw [e1, e3]; exact a, by rw [e2]; exact b, by rw [e2]; exact h, fun k => ?_⟩
  have := d (by rw [← e3]; exact k)
  exact ⟨this.1.fr (fun c i k _ => hf c i (by omega)), this.2.1.ve (mVe.of (fun c i k => hf c i (by omega))), by rw [e4, e5]; exact this.2.2⟩
theorem mTT.f3 {M M' : zM} (hf : ∀ c i, ¬ mF3 c i → M' c i = M c i) : mTT M' = mTT M ∧ M' 103 22 = M 103 22 := by
  have e1 := hf 103 21 (by omega)
  have e3 := hf 103 58 (by omega)
  refine ⟨?_, hf 103 22 (by omega)⟩
  unfold mTT
  rw [e1, e3, show M' 142 = M 142 from funext fun i => hf 142 i (by omega), show M' 107 = M 107 from funext fun i => hf 107 i (by omega)]
theorem mPh.f3 {M M' : zM} {φ : Int → Int} (H : mPh M φ) (hf : ∀ c i, ¬ mF3 c i → M' c i = M c i) : mPh M' φ := by
  unfold mPh at H ⊢
  obtain ⟨v0, v1, v2, v3, v4, v5, v6⟩ := mVe.of (M := M) (M' := M') (fun c i k => hf c i (by omega))
  rw [v0, v1, v2, v3, v4, v5, v6, hf 103 58 (by omega), hf 103 59 (by omega)]
  exact H
def rp (f : Int → Int) : List Int → Int → Prop
  | [], n => n = 0
  | x :: l, n => 1 ≤ n ∧ f (n - 1) = x ∧ rp f l (n - 1)
theorem rp.len {f : Int → Int} : ∀ {l : List Int} {n : Int}, rp f l n → n = (l.length : Int)
  | [], n, h => h
  | x :: l, n, h => by
    have := rp.len h.2.2
    rw [List.length_cons]; omega
theorem rp.uq {f : Int → Int} : ∀ {l l' : List Int} {n : Int}, rp f l n → rp f l' n → l = l'
  | [], [], _, _, _ => rfl
  | [], x :: l, n, h, g => by
    have h : n = 0 := h
    have := g.1
    omega
  | x :: l, [], n, h, g => by
    have g : n = 0 := g
    have := h.1
    omega
  | x :: l, y :: l', n, h, g => by
    rw [rp.uq h.2.2 g.2.2, ← h.2.1, ← g.2.1]
theorem rp.cg {f f' : Int → Int} : ∀ {l : List Int} {n : Int}, rp f l n → (∀ i, i < n → f' i = f i) → rp f' l n
  | [], _, h, _ => h
  | x :: l, n, h, e => ⟨h.1, (e (n - 1) (by omega)).trans h.2.1, rp.cg h.2.2 (fun i k => e i (by omega))⟩
theorem rp.push {f f' : Int → Int} {l : List Int} {n x : Int} (h : rp f l n) (e : ∀ i, i < n → f' i = f i) (ex : f' n = x) : rp f' (x :: l) (n + 1) := by
  have := h.len
  refine ⟨by omega, ?_, ?_⟩
  · rw [show n + 1 - 1 = n by omega]; exact ex
  · rw [show n + 1 - 1 = n by omega]; exact h.cg e
theorem rp.hd {f : Int → Int} {l : List Int} {n : Int} (h : rp f l n) : l.headD 0 = if n = 0 then 0 else f (n - 1) := by
  cases l with
  | nil => have h : n = 0 := h; rw [if_pos h]; rfl
  | cons x l => have a := h.1; rw [if_neg (by omega)]; exact h.2.1.symm
def gBn : List Int → Int
  | [] => 0
  | s :: S => gBn S + if s = 38 ∨ s = 124 then 1 else 0
theorem gBn_0 : ∀ S, 0 ≤ gBn S
  | [] => Int.le_refl 0
  | s :: S => by
    have := gBn_0 S
    unfold gBn; split <;> omega
def g01 : List Int → Prop
  | [] => True
  | x :: l => (x = 0 ∨ x = 1) ∧ g01 l
def mR (M : zM) (V S : List Int) : Prop := rp (M 132) V (M 103 62) ∧ rp (M 133) S (M 103 64) ∧ g01 V ∧ M 103 62 = gBn S + 1 ∧ M 103 62 ≤ 125 ∧ M 103 64 ≤ 125
theorem mR.uq {M : zM} {V S V' S' : List Int} (h : mR M V S) (g : mR M V' S') : V = V' ∧ S = S' := ⟨rp.uq h.1 g.1, rp.uq h.2.1 g.2.1⟩
abbrev pr_X12_topSign (M : zM) : Prop := (0 ≤ M 103 64 ∧ M 103 64 ≤ 130)
abbrev po_X12_topSign (M : zM) (r : Int) (M' : zM) : Prop := M' = M ∧ r = if M 103 64 = 0 then 0 else M 133 (M 103 64 - 1)
set_option maxHeartbeats 1000000 in
theorem ok_X12_topSign : zSnd zS 145 0 0 yX12_topSign cX12_topSign 1 (some .int) 0 [2] (F_X12_topSign pr_X12_topSign po_X12_topSign) := by
  refine (sn_X12_topSign).mono ?_
  rintro xs P M hz hR ⟨rfl, h, hP⟩
  refine ⟨rfl, ?_⟩
  change vc_X12_topSign P M
  unfold vc_X12_topSign
  refine ⟨fun b1 => ?_, fun b1 => ?_⟩
  · -- b1.1
    have o1 : ((0 : Int) ≤ ((M 103 64) - 1) ∧ ((M 103 64) - 1) < 130) := by
      omega
    refine ⟨o1, ?_⟩
    refine hP _ _ ⟨rfl, ?_⟩
    · rw [if_neg b1]  -- p1
  · -- b1.2
    refine hP _ _ ⟨rfl, ?_⟩
    · rw [if_pos b1]  -- p2

abbrev pr_X12_testEnds (M : zM) : Prop := (∃ V S, mR M V S)
abbrev po_X12_testEnds (M : zM) (M' : zM) : Prop := (∀ c i, ¬ (c = 132 ∨ (c = 103 ∧ i = 64)) → M' c i = M c i) ∧ (∀ V S, mR M V S → mR M' (gTe V S).1 (gTe V S).2) ∧ (M' 103 64 ≤ M 103 64)
set_option maxHeartbeats 1000000 in
theorem ok_X12_testEnds : zSnd zS 145 0 0 yX12_testEnds cX12_testEnds 1 none 1 [2] (F_X12_testEnds pr_X12_testEnds po_X12_testEnds) := by
  refine (sn_X12_testEnds ok_X12_topSign).mono ?_
  rintro xs P M hz hR ⟨rfl, hS, hP⟩
  refine ⟨rfl, ?_⟩
  change vc_X12_testEnds pr_X12_topSign po_X12_topSign P M
  unfold vc_X12_testEnds
  obtain ⟨V0, S0, h0⟩ := hS
  have n64 := h0.2.1.len
  have n64' : 0 ≤ M 103 64 := by omega
  clear n64
  refine ⟨fun M1 n3 => (n3 : Int) = (M1 103 64) ∧ (∃ V S, mR M1 V S ∧ gTe V0 S0 = gTe V S) ∧ (∀ c i, ¬ (c = 132 ∨ (c = 103 ∧ i = 64)) → M1 c i = M c i) ∧ (0 ≤ M1 103 64 ∧ M1 103 64 ≤ M 103 64), ⟨Int.toNat (M 103 64), by omega, ?_, ?_, ?_⟩, ?_⟩
  · show ∃ V S, mR M V S ∧ gTe V0 S0 = gTe V S  -- I0#1.0.kx
    exact ⟨V0, S0, h0, rfl⟩
  · show ∀ c i, ¬ (c = 132 ∨ (c = 103 ∧ i = 64)) → M c i = M c i  -- I0#1.0.kf
    intro c i _; rfl
  · show 0 ≤ M 103 64 ∧ M 103 64 ≤ M 103 64  -- I0#1.0.km
    have := h0.2.1.len; omega
  rintro M1 n3 ⟨h_n3, kx, kf, km⟩ z_M1
  obtain ⟨V, S, h, e⟩ := kx
  have lV := h.1.len
  have lS := h.2.1.len
  have cap := h.2.2.2.2
  have gc1 : pr_X12_topSign M1 := by
    show 0 ≤ M1 103 64 ∧ M1 103 64 ≤ 130
    omega
  refine ⟨gc1, ?_⟩
  rintro r10 M11 ⟨q_rfl, e_r10⟩ z_r10 z_M11
  have q_rfl := q_rfl.symm
  subst q_rfl
  rw [← h.2.1.hd] at e_r10
  refine ⟨fun b1 => ?_, fun b1 => ?_⟩
  · -- b1.1
    refine hP _ ⟨?_, ?_, ?_⟩
    · show ∀ c i, ¬ (c = 132 ∨ (c = 103 ∧ i = 64)) → M1 c i = M c i  -- p1.hf
      exact kf
    · show ∀ V S, mR M V S → mR M1 (gTe V S).1 (gTe V S).2  -- p1.ho
      intro V' S' h'
      have u := mR.uq h' h0
      rw [u.1, u.2, e, gTe_hd (by rw [← e_r10]; exact b1)]
      exact h
    · show M1 103 64 ≤ M 103 64  -- p1.hm
      exact km.2
  · -- b1.2
    have bn := gBn_0 S
    have wf := h.2.2.2.1
    obtain ⟨S1, rfl⟩ : ∃ S1, S = 33 :: S1 := by
      cases S with
      | nil => exact absurd (e_r10.symm.trans b1) (by decide)
      | cons s S => exact ⟨S, by rw [show s = 33 from e_r10.symm.trans b1]⟩
    obtain ⟨x, V1, rfl⟩ : ∃ x V1, V = x :: V1 := by
      cases V with
      | nil => have : M1 103 62 = 0 := h.1; omega
      | cons x V => exact ⟨x, V, rfl⟩
    have hx : M1 132 (M1 103 62 - 1) = x := h.1.2.1
    have x01 : x = 0 ∨ x = 1 := h.2.2.1.1
    have up : ∀ N : zM, (∀ c i, ¬ (c = 132 ∨ (c = 103 ∧ i = 64)) → N c i = M1 c i) → N 103 64 = M1 103 64 - 1 → (∀ i, N 132 i = if i = M1 103 62 - 1 then 1 - x else M1 132 i) → mR N ((1 - x) :: V1) S1 := fun N nf n64 nv => by
      have e62 : N 103 62 = M1 103 62 := nf 103 62 (by omega)
      refine ⟨?_, ?_, ⟨by omega, h.2.2.1.2⟩, ?_, by omega, by omega⟩
      · rw [e62]
        refine ⟨h.1.1, by rw [nv, if_pos rfl], h.1.2.2.cg (fun i k => by rw [nv, if_neg (by omega)])⟩
      · rw [n64]
        exact h.2.1.2.2.cg (fun i _ => nf 133 i (by omega))
      · rw [e62, wf]; show gBn S1 + (if (33 : Int) = 38 ∨ (33 : Int) = 124 then 1 else 0) + 1 = gBn S1 + 1; rw [if_neg (by decide)]; omega
    have o1 : ((0 : Int) ≤ ((M1 103 62) - 1) ∧ ((M1 103 62) - 1) < 130) := by
      omega
    refine ⟨o1, ?_⟩
    refine ⟨fun b2 => ?_, fun b2 => ?_⟩
    · -- b2.1
      rw [hx] at b2
      intro M19 e_M19
      have l1 := h.2.1.1
      have g19 : M19 103 64 = M1 103 64 := by rw [e_M19, zset_n _ (by omega)]
      have o2 : zin ((M19 103 64) - 1) := by
        omega
      refine ⟨o2, ?_⟩
      intro M23 e_M23
      have u := up M23 (fun c i k => by rw [e_M23, zset_n _ (by omega), e_M19, zset_n _ (by omega)]) (by rw [e_M23, zset_s, e_M19, zset_n _ (by omega)]) (fun i => by
        rw [e_M23, zset_n _ (by omega), e_M19]
        by_cases k : i = M1 103 62 - 1
        · rw [k, zset_s, if_pos rfl]; omega
        · rw [zset_n _ (by omega), if_neg k])
      have g23 : M23 103 64 = M1 103 64 - 1 := by rw [e_M23, zset_s, e_M19, zset_n _ (by omega)]
      have l1 := h.2.1.1
      refine ⟨Int.toNat (M23 103 64), by omega, by omega, ?_, ?_, ?_⟩
      · show ∃ V S, mR M23 V S ∧ gTe V0 S0 = gTe V S  -- I0.1.kx
        exact ⟨_, _, u, by rw [e, gTe_y]⟩
      · show ∀ c i, ¬ (c = 132 ∨ (c = 103 ∧ i = 64)) → M23 c i = M c i  -- I0.1.kf
        intro c i k; rw [e_M23, zset_n _ (by omega), e_M19, zset_n _ (by omega)]; exact kf c i k
      · show 0 ≤ M23 103 64 ∧ M23 103 64 ≤ M 103 64  -- I0.1.km
        omega
    · -- b2.2
      rw [hx] at b2
      intro M29 e_M29
      have l1 := h.2.1.1
      have g29 : M29 103 64 = M1 103 64 := by rw [e_M29, zset_n _ (by omega)]
      have o3 : zin ((M29 103 64) - 1) := by
        omega
      refine ⟨o3, ?_⟩
      intro M33 e_M33
      have u := up M33 (fun c i k => by rw [e_M33, zset_n _ (by omega), e_M29, zset_n _ (by omega)]) (by rw [e_M33, zset_s, e_M29, zset_n _ (by omega)]) (fun i => by
        rw [e_M33, zset_n _ (by omega), e_M29]
        by_cases k : i = M1 103 62 - 1
        · rw [k, zset_s, if_pos rfl]; omega
        · rw [zset_n _ (by omega), if_neg k])
      have g33 : M33 103 64 = M1 103 64 - 1 := by rw [e_M33, zset_s, e_M29, zset_n _ (by omega)]
      have l1 := h.2.1.1
      refine ⟨Int.toNat (M33 103 64), by omega, by omega, ?_, ?_, ?_⟩
      · show ∃ V S, mR M33 V S ∧ gTe V0 S0 = gTe V S  -- I0.2.kx
        exact ⟨_, _, u, by rw [e, gTe_y]⟩
      · show ∀ c i, ¬ (c = 132 ∨ (c = 103 ∧ i = 64)) → M33 c i = M c i  -- I0.2.kf
        intro c i k; rw [e_M33, zset_n _ (by omega), e_M29, zset_n _ (by omega)]; exact kf c i k
      · show 0 ≤ M33 103 64 ∧ M33 103 64 ≤ M 103 64  -- I0.2.km
        omega

abbrev pr_X12_join (q : Int) (M : zM) : Prop := (q = 38 ∨ q = 124) ∧ (∃ V S, mR M V S)
abbrev po_X12_join (q : Int) (M : zM) (M' : zM) : Prop := (∀ c i, ¬ (c = 132 ∨ (c = 103 ∧ (i = 62 ∨ i = 64))) → M' c i = M c i) ∧ (∀ V S, mR M V S → mR M' (gJ q V S).1 (gJ q V S).2) ∧ (M' 103 64 ≤ M 103 64 ∧ M' 103 62 ≤ M 103 62)
set_option maxHeartbeats 2000000 in
theorem ok_X12_join : zSnd zS 145 0 0 yX12_join cX12_join 2 none 1 [2, 0] (F_X12_join pr_X12_join po_X12_join) := by
  refine (sn_X12_join ok_X12_topSign).mono ?_
  rintro xs P M hz hR ⟨q, rfl, ⟨hq, hS⟩, hP⟩
  refine ⟨_, rfl, ?_⟩
  have z_q := zall_h (zall_t hz) (by decide)
  change vc_X12_join pr_X12_topSign po_X12_topSign q P M
  unfold vc_X12_join
  obtain ⟨V0, S0, h0⟩ := hS
  have n64 := h0.2.1.len
  have n64' : 0 ≤ M 103 64 := by omega
  clear n64
  refine ⟨fun M1 n3 => (n3 : Int) = (M1 103 64) ∧ (∃ V S, mR M1 V S ∧ gJ q V0 S0 = gJ q V S) ∧ (∀ c i, ¬ (c = 132 ∨ (c = 103 ∧ (i = 62 ∨ i = 64))) → M1 c i = M c i) ∧ (0 ≤ M1 103 64 ∧ M1 103 64 ≤ M 103 64 ∧ M1 103 62 ≤ M 103 62), ⟨Int.toNat (M 103 64), by omega, ?_, ?_, ?_⟩, ?_⟩
  · show ∃ V S, mR M V S ∧ gJ q V0 S0 = gJ q V S  -- I0#1.0.kx
    exact ⟨V0, S0, h0, rfl⟩
  · show ∀ c i, ¬ (c = 132 ∨ (c = 103 ∧ (i = 62 ∨ i = 64))) → M c i = M c i  -- I0#1.0.kf
    intro c i _; rfl
  · show 0 ≤ M 103 64 ∧ M 103 64 ≤ M 103 64 ∧ M 103 62 ≤ M 103 62  -- I0#1.0.km
    have := h0.2.1.len; omega
  rintro M1 n3 ⟨h_n3, kx, kf, km⟩ z_M1
  obtain ⟨V, S, h, e⟩ := kx
  have lV := h.1.len
  have lS := h.2.1.len
  have cap := h.2.2.2.2
  have gc1 : pr_X12_topSign M1 := by
    show 0 ≤ M1 103 64 ∧ M1 103 64 ≤ 130
    omega
  refine ⟨gc1, ?_⟩
  rintro r10 M11 ⟨q_rfl, e_r10⟩ z_r10 z_M11
  have q_rfl := q_rfl.symm
  subst q_rfl
  rw [← h.2.1.hd] at e_r10
  refine ⟨fun b1 => ?_, fun b1 => ?_⟩
  · -- b1.1
    refine hP _ ⟨?_, ?_, ?_⟩
    · show ∀ c i, ¬ (c = 132 ∨ (c = 103 ∧ (i = 62 ∨ i = 64))) → M1 c i = M c i  -- p1.hf
      exact kf
    · show ∀ V S, mR M V S → mR M1 (gJ q V S).1 (gJ q V S).2  -- p1.ho
      intro V' S' h'
      have u := mR.uq h' h0
      rw [u.1, u.2, e, gJ_hd (by omega) (by rw [← e_r10]; exact b1)]
      exact h
    · show M1 103 64 ≤ M 103 64 ∧ M1 103 62 ≤ M 103 62  -- p1.hm
      exact ⟨km.2.1, km.2.2⟩
  · -- b1.2
    have bn := gBn_0 S
    have wf := h.2.2.2.1
    obtain ⟨S1, rfl⟩ : ∃ S1, S = q :: S1 := by
      cases S with
      | nil => exact absurd (show (0 : Int) = q from e_r10.symm.trans b1) (by omega)
      | cons s S => exact ⟨S, by rw [show s = q from e_r10.symm.trans b1]⟩
    have bn1 := gBn_0 S1
    have wf1 : M1 103 62 = gBn S1 + 2 := by
      have : gBn (q :: S1) = gBn S1 + 1 := by show gBn S1 + (if q = 38 ∨ q = 124 then 1 else 0) = _; rw [if_pos hq]
      omega
    obtain ⟨x, y, V1, rfl⟩ : ∃ x y V1, V = x :: y :: V1 := by
      cases V with
      | nil => have : M1 103 62 = 0 := h.1; omega
      | cons x V =>
        cases V with
        | nil => have : M1 103 62 - 1 = 0 := h.1.2.2; omega
        | cons y V => exact ⟨x, y, V, rfl⟩
    have hx : M1 132 (M1 103 62 - 1) = x := h.1.2.1
    have hy : M1 132 (M1 103 62 - 1 - 1) = y := h.1.2.2.2.1
    have l1 := h.2.1.1
    have up : ∀ (N : zM) (z : Int), (z = 0 ∨ z = 1) → (∀ c i, ¬ (c = 132 ∨ (c = 103 ∧ (i = 62 ∨ i = 64))) → N c i = M1 c i) → N 103 64 = M1 103 64 - 1 → N 103 62 = M1 103 62 - 1 → (∀ i, N 132 i = if i = M1 103 62 - 1 - 1 then z else M1 132 i) → mR N (z :: V1) S1 := fun N z z01 nf n64 n62 nv => by
      refine ⟨?_, ?_, ⟨z01, h.2.2.1.2.2⟩, by omega, by omega, by omega⟩
      · rw [n62]
        refine ⟨by omega, by rw [nv, if_pos rfl], h.1.2.2.2.2.cg (fun i k => by rw [nv, if_neg (by omega)])⟩
      · rw [n64]
        exact h.2.1.2.2.cg (fun i _ => nf 133 i (by omega))
    have o1 : zin ((M1 103 62) - 1) := by
      omega
    refine ⟨o1, ?_⟩
    intro M18 e_M18
    have g62 : M18 103 62 = M1 103 62 - 1 := by rw [e_M18, zset_s]
    have g64 : M18 103 64 = M1 103 64 := by rw [e_M18, zset_n _ (by omega)]
    have g132 : ∀ i, M18 132 i = M1 132 i := fun i => by rw [e_M18, zset_n _ (by omega)]
    have up2 : ∀ (N N2 : zM) (z : Int), (z = 0 ∨ z = 1) → N = zset M18 132 (M18 103 62 - 1) z → N2 = zset N 103 64 (N 103 64 - 1) → mR N2 (z :: V1) S1 ∧ N2 103 64 = M1 103 64 - 1 ∧ N2 103 62 = M1 103 62 - 1 ∧ ∀ c i, ¬ (c = 132 ∨ (c = 103 ∧ (i = 62 ∨ i = 64))) → N2 c i = M c i := fun N N2 z z01 e1 e2 => by
      have a : ∀ c i, ¬ (c = 132 ∨ (c = 103 ∧ (i = 62 ∨ i = 64))) → N2 c i = M1 c i := fun c i k => by rw [e2, zset_n _ (by omega), e1, zset_n _ (by omega), e_M18, zset_n _ (by omega)]
      have b : N2 103 64 = M1 103 64 - 1 := by rw [e2, zset_s, e1, zset_n _ (by omega), g64]
      have c : N2 103 62 = M1 103 62 - 1 := by rw [e2, zset_n _ (by omega), e1, zset_n _ (by omega), g62]
      refine ⟨up N2 z z01 a b c (fun i => ?_), b, c, fun c i k => by rw [a c i k]; exact kf c i k⟩
      rw [e2, zset_n _ (by omega), e1, g62]
      by_cases k : i = M1 103 62 - 1 - 1
      · rw [k, zset_s, if_pos rfl]
      · rw [zset_n _ (by omega), if_neg k, g132]
    have ty : M18 132 (M18 103 62 - 1) = y := by rw [g132, g62]; exact hy
    have tx : M18 132 (M18 103 62) = x := by rw [g132, g62]; exact hx
    refine ⟨fun b2 => ?_, fun b2 => ?_⟩
    · -- b2.1
      have o2 : ((0 : Int) ≤ ((M18 103 62) - 1) ∧ ((M18 103 62) - 1) < 130) := by
        omega
      refine ⟨o2, ?_⟩
      refine ⟨fun b3 => ?_, fun b3 => ?_⟩
      · -- b3.1
        intro M24 e_M24
        have n64 : M24 103 64 = M1 103 64 := by rw [e_M24, zset_n _ (by omega), g64]
        have o3 : zin ((M24 103 64) - 1) := by
          omega
        refine ⟨o3, ?_⟩
        intro M28 e_M28
        have u := up2 M24 M28 1 (.inr rfl) e_M24 e_M28
        have cb : (1 : Int) = gCb q y x := by unfold gCb; rw [if_neg b2, if_pos (.inl (by rw [← ty]; exact b3))]
        refine ⟨Int.toNat (M28 103 64), by omega, by omega, ?_, ?_, ?_⟩
        · show ∃ V S, mR M28 V S ∧ gJ q V0 S0 = gJ q V S  -- I0.1.kx
          exact ⟨_, _, u.1, by rw [e, gJ_y, cb]⟩
        · show ∀ c i, ¬ (c = 132 ∨ (c = 103 ∧ (i = 62 ∨ i = 64))) → M28 c i = M c i  -- I0.1.kf
          exact u.2.2.2
        · show 0 ≤ M28 103 64 ∧ M28 103 64 ≤ M 103 64 ∧ M28 103 62 ≤ M 103 62  -- I0.1.km
          omega
      · -- b3.2
        have o4 : ((0 : Int) ≤ (M18 103 62) ∧ (M18 103 62) < 130) := by
          omega
        refine ⟨o4, ?_⟩
        refine ⟨fun b4 => ?_, fun b4 => ?_⟩
        · -- b4.1
          intro M36 e_M36
          have n64 : M36 103 64 = M1 103 64 := by rw [e_M36, zset_n _ (by omega), g64]
          have o5 : zin ((M36 103 64) - 1) := by
            omega
          refine ⟨o5, ?_⟩
          intro M40 e_M40
          have u := up2 M36 M40 0 (.inl rfl) e_M36 e_M40
          have cb : (0 : Int) = gCb q y x := by unfold gCb; rw [if_neg b2, if_neg (by rw [← ty, ← tx]; omega)]
          refine ⟨Int.toNat (M40 103 64), by omega, by omega, ?_, ?_, ?_⟩
          · show ∃ V S, mR M40 V S ∧ gJ q V0 S0 = gJ q V S  -- I0.2.kx
            exact ⟨_, _, u.1, by rw [e, gJ_y, cb]⟩
          · show ∀ c i, ¬ (c = 132 ∨ (c = 103 ∧ (i = 62 ∨ i = 64))) → M40 c i = M c i  -- I0.2.kf
            exact u.2.2.2
          · show 0 ≤ M40 103 64 ∧ M40 103 64 ≤ M 103 64 ∧ M40 103 62 ≤ M 103 62  -- I0.2.km
            omega
        · -- b4.2
          intro M46 e_M46
          have n64 : M46 103 64 = M1 103 64 := by rw [e_M46, zset_n _ (by omega), g64]
          have o6 : zin ((M46 103 64) - 1) := by
            omega
          refine ⟨o6, ?_⟩
          intro M50 e_M50
          have u := up2 M46 M50 1 (.inr rfl) e_M46 e_M50
          have cb : (1 : Int) = gCb q y x := by unfold gCb; rw [if_neg b2, if_pos (.inr (by rw [← tx]; exact b4))]
          refine ⟨Int.toNat (M50 103 64), by omega, by omega, ?_, ?_, ?_⟩
          · show ∃ V S, mR M50 V S ∧ gJ q V0 S0 = gJ q V S  -- I0.3.kx
            exact ⟨_, _, u.1, by rw [e, gJ_y, cb]⟩
          · show ∀ c i, ¬ (c = 132 ∨ (c = 103 ∧ (i = 62 ∨ i = 64))) → M50 c i = M c i  -- I0.3.kf
            exact u.2.2.2
          · show 0 ≤ M50 103 64 ∧ M50 103 64 ≤ M 103 64 ∧ M50 103 62 ≤ M 103 62  -- I0.3.km
            omega
    · -- b2.2
      have o7 : ((0 : Int) ≤ ((M18 103 62) - 1) ∧ ((M18 103 62) - 1) < 130) := by
        omega
      refine ⟨o7, ?_⟩
      refine ⟨fun b5 => ?_, fun b5 => ?_⟩
      · -- b5.1
        intro M58 e_M58
        have n64 : M58 103 64 = M1 103 64 := by rw [e_M58, zset_n _ (by omega), g64]
        have o8 : zin ((M58 103 64) - 1) := by
          omega
        refine ⟨o8, ?_⟩
        intro M62 e_M62
        have u := up2 M58 M62 0 (.inl rfl) e_M58 e_M62
        have cb : (0 : Int) = gCb q y x := by unfold gCb; rw [if_pos b2, if_neg (by rw [← ty, ← tx]; omega)]
        refine ⟨Int.toNat (M62 103 64), by omega, by omega, ?_, ?_, ?_⟩
        · show ∃ V S, mR M62 V S ∧ gJ q V0 S0 = gJ q V S  -- I0.4.kx
          exact ⟨_, _, u.1, by rw [e, gJ_y, cb]⟩
        · show ∀ c i, ¬ (c = 132 ∨ (c = 103 ∧ (i = 62 ∨ i = 64))) → M62 c i = M c i  -- I0.4.kf
          exact u.2.2.2
        · show 0 ≤ M62 103 64 ∧ M62 103 64 ≤ M 103 64 ∧ M62 103 62 ≤ M 103 62  -- I0.4.km
          omega
      · -- b5.2
        have o9 : ((0 : Int) ≤ (M18 103 62) ∧ (M18 103 62) < 130) := by
          omega
        refine ⟨o9, ?_⟩
        refine ⟨fun b6 => ?_, fun b6 => ?_⟩
        · -- b6.1
          intro M70 e_M70
          have n64 : M70 103 64 = M1 103 64 := by rw [e_M70, zset_n _ (by omega), g64]
          have o10 : zin ((M70 103 64) - 1) := by
            omega
          refine ⟨o10, ?_⟩
          intro M74 e_M74
          have u := up2 M70 M74 0 (.inl rfl) e_M70 e_M74
          have cb : (0 : Int) = gCb q y x := by unfold gCb; rw [if_pos b2, if_neg (by rw [← ty, ← tx]; omega)]
          refine ⟨Int.toNat (M74 103 64), by omega, by omega, ?_, ?_, ?_⟩
          · show ∃ V S, mR M74 V S ∧ gJ q V0 S0 = gJ q V S  -- I0.5.kx
            exact ⟨_, _, u.1, by rw [e, gJ_y, cb]⟩
          · show ∀ c i, ¬ (c = 132 ∨ (c = 103 ∧ (i = 62 ∨ i = 64))) → M74 c i = M c i  -- I0.5.kf
            exact u.2.2.2
          · show 0 ≤ M74 103 64 ∧ M74 103 64 ≤ M 103 64 ∧ M74 103 62 ≤ M 103 62  -- I0.5.km
            omega
        · -- b6.2
          intro M80 e_M80
          have n64 : M80 103 64 = M1 103 64 := by rw [e_M80, zset_n _ (by omega), g64]
          have o11 : zin ((M80 103 64) - 1) := by
            omega
          refine ⟨o11, ?_⟩
          intro M84 e_M84
          have u := up2 M80 M84 1 (.inr rfl) e_M80 e_M84
          have cb : (1 : Int) = gCb q y x := by unfold gCb; rw [if_pos b2, if_pos ⟨by rw [← ty]; exact b5, by rw [← tx]; exact b6⟩]
          refine ⟨Int.toNat (M84 103 64), by omega, by omega, ?_, ?_, ?_⟩
          · show ∃ V S, mR M84 V S ∧ gJ q V0 S0 = gJ q V S  -- I0.6.kx
            exact ⟨_, _, u.1, by rw [e, gJ_y, cb]⟩
          · show ∀ c i, ¬ (c = 132 ∨ (c = 103 ∧ (i = 62 ∨ i = 64))) → M84 c i = M c i  -- I0.6.kf
            exact u.2.2.2
          · show 0 ≤ M84 103 64 ∧ M84 103 64 ≤ M 103 64 ∧ M84 103 62 ≤ M 103 62  -- I0.6.km
            omega

