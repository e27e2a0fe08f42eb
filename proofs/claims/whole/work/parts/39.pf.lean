theorem gR.cong {S S' : Int → Int → Prop} {n : Int} (h : ∀ i j, 0 ≤ i → i < j → j ≤ n → (S i j ↔ S' i j)) : ∀ (p : Nat) (i : Int), 0 ≤ i → (gR S n p i ↔ gR S' n p i)
  | 0, i, _ => Iff.rfl
  | p + 1, i, i0 => by
    constructor
    · rintro ⟨j, a, b, s, d⟩
      exact ⟨j, a, b, (h i j i0 a b).1 s, (gR.cong h p j (by omega)).1 d⟩
    · rintro ⟨j, a, b, s, d⟩
      exact ⟨j, a, b, (h i j i0 a b).2 s, (gR.cong h p j (by omega)).2 d⟩
theorem gPie.cong {S S' : Int → Int → Prop} {n P : Int} {b : Int → Int} (h : ∀ i j, 0 ≤ i → i < j → j ≤ n → (S i j ↔ S' i j)) (H : gPie S n P b) : gPie S' n P b := by
  have rg := H.rng
  obtain ⟨h1, h2, h3, h4, h5, h6⟩ := H
  refine ⟨h1, h2, fun p p3 r => h3 p p3 ((gR.cong h p 0 (by omega)).2 r), (gR.cong h _ 0 (by omega)).1 h4, h5, fun p p0 p1 => ?_⟩
  have r1 := rg p p0 (by omega)
  obtain ⟨a1, a2, a3, a4, a5⟩ := h6 p p0 p1
  exact ⟨a1, a2, (h _ _ r1.1 a1 a2).1 a3, (gR.cong h _ _ (by omega)).1 a4, fun j j0 j1 s r => a5 j j0 j1 ((h _ _ r1.1 (by omega) j1).2 s) ((gR.cong h _ _ (by omega)).2 r)⟩
theorem gPie.congb {S : Int → Int → Prop} {n P : Int} {b b' : Int → Int} (h : ∀ p, 0 ≤ p → p ≤ P → b' p = b p) (H : gPie S n P b) : gPie S n P b' := by
  obtain ⟨h1, h2, h3, h4, h5, h6⟩ := H
  refine ⟨h1, h2, h3, h4, by rw [h 0 (by omega) (by omega)]; exact h5, fun p p0 p1 => ?_⟩
  rw [h p p0 (by omega), h (p + 1) (by omega) (by omega)]
  exact h6 p p0 p1
theorem gRec.cong {S : Int → Int → Prop} {n : Int} {l nx l2 n2 l' nx' l2' n2' : Int → Int} {i : Int} (h : gRec S n l nx l2 n2 i) (e1 : ∀ j, i ≤ j → j < n → l' j = l j) (e2 : nx' i = nx i) (e3 : l2' i = l2 i) (e4 : n2' i = n2 i) (hi : i < n) : gRec S n l' nx' l2' n2' i := by
  obtain ⟨a, b⟩ := h
  refine ⟨?_, ?_⟩
  · rw [e3, e4]; exact a.cong (fun j j0 j1 => e1 j (by omega) j1)
  · rw [e1 i (by omega) hi, e2, e3, e4]; exact b
/-- what stands at the end itself is never looked at -/
theorem gRec.fin {S : Int → Int → Prop} {n : Int} {l nx l2 n2 : Int → Int} : ∃ L : Int → Int, (∀ j, j < n → L j = l j) ∧ L n = 0 ∧ ∀ i, i < n → gRec S n l nx l2 n2 i → gRec S n L nx l2 n2 i := by
  refine ⟨fun j => if j = n then 0 else l j, fun j h => if_neg (by omega), if_pos rfl, fun i hi h => ?_⟩
  exact h.cong (fun j _ j1 => if_neg (by omega)) rfl rfl rfl hi
theorem gRec_mn' {S : Int → Int → Prop} {n : Int} {l nx l2 n2 : Int → Int} (hS : ∀ i, S i (i + 1)) (hn : n ≤ 412) {lo : Int} (hlo : 0 ≤ lo) (h : ∀ i, lo ≤ i → i < n → gRec S n l nx l2 n2 i) (j : Int) (j0 : lo ≤ j) (j1 : j < n) : gMn S n j (l j) := by
  obtain ⟨L, hL, hLn, hR⟩ := gRec.fin (S := S) (n := n) (l := l) (nx := nx) (l2 := l2) (n2 := n2)
  have := gRec_mn hS hn hLn hlo (fun i i0 i1 => hR i i1 (h i i0 i1)) (n - j) (by omega) (by omega)
  rw [show n - (n - j) = j by omega, hL j j1] at this
  exact this
abbrev pr_X6_follow (n : Int) (M : zM) : Prop := (3 ≤ n ∧ n ≤ 412) ∧ (∀ i, 0 ≤ i → i < n → gRec (gStr (M 19) (M 20) (M 42 5)) n (M 44) (M 45) (M 46) (M 47) i) ∧ (∃ b, gArg (M 46) (gStr (M 19) (M 20) (M 42 5) 0) 0 n b (M 42 10))
abbrev po_X6_follow (n : Int) (M : zM) (M' : zM) : Prop := (∀ c k, c ≠ 43 → ¬ (c = 42 ∧ k = 1) → M' c k = M c k) ∧ (gPie (gStr (M 19) (M 20) (M 42 5)) n (M' 42 1) (M' 43))
set_option maxHeartbeats 4000000 in
theorem ok_X6_follow : zSnd zS 145 0 0 yX6_follow cX6_follow 4 none 0 [2, 0] (F_X6_follow pr_X6_follow po_X6_follow) := by
  refine (sn_X6_follow).mono ?_
  rintro xs P M hz hR ⟨n, rfl, ⟨hn, hrec0, h3⟩, hP⟩
  refine ⟨_, rfl, ?_⟩
  have z_n := zall_h (zall_t hz) (by decide)
  change vc_X6_follow n P M
  unfold vc_X6_follow
  generalize hSe : gStr (M 19) (M 20) (M 42 5) = S at hrec0 h3
  obtain ⟨L, hL, hLn, hRL⟩ := gRec.fin (S := S) (n := n) (l := M 44) (nx := M 45) (l2 := M 46) (n2 := M 47)
  have hrec : ∀ i, 0 ≤ i → i < n → gRec S n L (M 45) (M 46) (M 47) i := fun i i0 i1 => hRL i i1 (hrec0 i i0 i1)
  have hS1 : ∀ i, S i (i + 1) := fun i => by rw [← hSe]; exact gStr_1
  have hmn : ∀ j, 0 ≤ j → j ≤ n → gMn S n j (L j) := fun j j0 j1 => by
    have := gRec_mn hS1 hn.2 hLn (show (0 : Int) ≤ 0 by omega) hrec (n - j) (by omega) (by omega)
    rw [show n - (n - j) = j by omega] at this
    exact this
  have hm2 : ∀ j, 0 ≤ j → j < n → gM2 S n j (M 46 j) := fun j j0 j1 => gArg_2 hS1 hn.2 ⟨j0, j1⟩ (fun k k0 k1 => hmn k (by omega) k1) (hrec j j0 j1).1
  obtain ⟨P, hP3, hPn, hPmin, hPR, hP0⟩ : ∃ P : Int, 3 ≤ P ∧ P ≤ n ∧ (∀ p : Nat, 3 ≤ p → gR S n p 0 → P ≤ p) ∧ gR S n P.toNat 0 ∧ gNx S n P 0 (M 42 10) := by
    obtain ⟨b, hb⟩ := h3
    have one := hm2 1 (by omega) (by omega)
    have full := gR_all (n := n) hS1 (n - 1).toNat
    rw [show n - ((n - 1).toNat : Int) = 1 by omega] at full
    have l1 : 2 ≤ M 46 1 ∧ M 46 1 ≤ n - 1 := by
      rcases one with ⟨_, none⟩ | ⟨a1, a2, _, _⟩
      · exact absurd full (none _ (by omega))
      · exact ⟨a1, a2⟩
    rcases hb with ⟨_, none⟩ | ⟨a1, a2, a3, a4, a5, a6⟩
    · have := none 1 (by omega) (by omega) (hS1 0); omega
    · have m := hm2 (M 42 10) (by omega) a2
      have le1 := (a6 1 (by omega) (by omega) (hS1 0)).1
      rcases m with ⟨m1, _⟩ | ⟨m1, m2, m3, m4⟩
      · omega
      · have dec : ∀ p : Nat, 3 ≤ p → gR S n p 0 → ∃ j : Int, 0 < j ∧ j < n ∧ S 0 j ∧ gR S n (p - 1) j ∧ M 46 j ≤ ((p - 1 : Nat) : Int) := by
          intro p p3 r
          obtain ⟨q, rfl⟩ : ∃ q, p = q + 1 := ⟨p - 1, by omega⟩
          obtain ⟨j, j0, j1, s, d⟩ := r
          have jn : j < n := by
            apply Classical.byContradiction
            intro c
            have e : j = n := by omega
            subst e
            have := gR_n d
            omega
          refine ⟨j, j0, jn, s, d, ?_⟩
          rcases hm2 j (by omega) jn with ⟨_, none⟩ | ⟨_, _, _, mm⟩
          · exact absurd d (none q (by omega))
          · have := mm q (by omega) d
            omega
        refine ⟨1 + M 46 (M 42 10), by omega, by omega, ?_, ?_, a1, by omega, a3, ?_, ?_⟩
        · intro p p3 r
          obtain ⟨j, j0, j1, s, d, e⟩ := dec p p3 r
          have := (a6 j j0 j1 s).1
          omega
        · rw [show (1 + M 46 (M 42 10)).toNat = (M 46 (M 42 10)).toNat + 1 by omega]
          exact ⟨M 42 10, a1, by omega, a3, m3⟩
        · rw [show (1 + M 46 (M 42 10) - 1).toNat = (M 46 (M 42 10)).toNat by omega]; exact m3
        · intro j j0 j1 s r
          rw [show (1 + M 46 (M 42 10) - 1).toNat = (M 46 (M 42 10)).toNat by omega] at r
          have jn : j < n := by
            apply Classical.byContradiction
            intro c
            have e : j = n := by omega
            subst e
            have := gR_n r
            omega
          have st := (a6 j (by omega) jn s).2 j0
          rcases hm2 j (by omega) jn with ⟨_, none⟩ | ⟨_, _, _, mm⟩
          · exact absurd r (none _ (by omega))
          · have := mm _ (by omega) r
            omega
  intro M1 e_M1
  intro M4 e_M4
  have q : ∀ c k, c ≠ 43 → ¬ (c = 42 ∧ k = 1) → M4 c k = M c k := fun c k h1 h2 => by rw [e_M4, zset_n _ (by omega), e_M1, zset_n _ (by omega)]
  have q1 : M4 42 1 = 0 := by rw [e_M4, zset_s]
  have q43 : M4 43 0 = 0 := by rw [e_M4, zset_n _ (by omega), e_M1, zset_s]
  refine ⟨fun v7 v8 M11 n13 => (n13 : Int) = (n - v8) ∧ (0 ≤ v8 ∧ v8 ≤ P) ∧ (0 ≤ v7 ∧ v7 ≤ n) ∧ (∀ c k, c ≠ 43 → ¬ (c = 42 ∧ k = 1) → M11 c k = M c k) ∧ (M11 42 1 = v8) ∧ (M11 43 v8 = v7) ∧ (M11 43 0 = 0) ∧ (v8 = 0 → v7 = 0) ∧ (∀ p, 0 ≤ p → p < v8 → gNx S n (P - p) (M11 43 p) (M11 43 (p + 1))) ∧ (gR S n (P - v8).toNat v7) ∧ (∀ p : Nat, gR S n p v7 → gR S n (Int.toNat v8 + p) 0), ⟨Int.toNat (n - 0), by omega, ?_, ?_, ?_, ?_, ?_, ?_, ?_, ?_, ?_, ?_⟩, ?_⟩
  · show 0 ≤ 0 ∧ 0 ≤ P  -- I16#1.0.hv
    first | with_reducible assumption | omega | exact trivial | with_reducible rfl
  · show 0 ≤ 0 ∧ 0 ≤ n  -- I16#1.0.h7
    first | with_reducible assumption | omega | exact trivial | with_reducible rfl
  · show ∀ c k, c ≠ 43 → ¬ (c = 42 ∧ k = 1) → M4 c k = M c k  -- I16#1.0.hf
    first | with_reducible assumption | omega | exact trivial | with_reducible rfl
  · show M4 42 1 = 0  -- I16#1.0.h1
    first | with_reducible assumption | omega | exact trivial | with_reducible rfl
  · show M4 43 0 = 0  -- I16#1.0.hb
    first | with_reducible assumption | omega | exact trivial | with_reducible rfl
  · show M4 43 0 = 0  -- I16#1.0.hb0
    first | with_reducible assumption | omega | exact trivial | with_reducible rfl
  · show 0 = 0 → 0 = 0  -- I16#1.0.h00
    first | with_reducible assumption | omega | exact trivial | with_reducible rfl
  · show ∀ p, 0 ≤ p → p < 0 → gNx S n (P - p) (M4 43 p) (M4 43 (p + 1))  -- I16#1.0.hch
    intro p p0 p1; omega
  · show gR S n (P - 0).toNat 0  -- I16#1.0.hR
    rw [show P - 0 = P by omega]; exact hPR
  · show ∀ p : Nat, gR S n p 0 → gR S n (Int.toNat 0 + p) 0  -- I16#1.0.hpath
    intro p r; rw [show (0 : Int).toNat + p = p by simp]; exact r
  rintro v7 v8 M11 n13 ⟨h_n13, hv, h7, hf, h1, hb, hb0, h00, hch, hR, hpath⟩ z_v7 z_v8 z_M11
  refine ⟨fun b1 => ?_, fun b1 => ?_⟩
  · -- b1.1
    refine hP _ ⟨?_, ?_⟩
    · show ∀ c k, c ≠ 43 → ¬ (c = 42 ∧ k = 1) → M11 c k = M c k  -- p1.hf
      first | with_reducible assumption | omega | exact trivial | with_reducible rfl
    · show gPie (gStr (M 19) (M 20) (M 42 5)) n (M11 42 1) (M11 43)  -- p1.hp
      rw [hSe, h1]
      have e : v8 = P := by omega
      subst e
      exact ⟨hP3, hPn, hPmin, hPR, hb0, hch⟩
  · -- b1.2
    refine ⟨fun b2 => ?_, fun b2 => ?_⟩
    · -- b2.1
      have e7 : v7 = n := by omega
      have eP : v8 = P := by
        rw [e7] at hR
        have := gR_n hR
        omega
      refine hP _ ⟨?_, ?_⟩
      · show ∀ c k, c ≠ 43 → ¬ (c = 42 ∧ k = 1) → M11 c k = M c k  -- p2.hf
        first | with_reducible assumption | omega | exact trivial | with_reducible rfl
      · show gPie (gStr (M 19) (M 20) (M 42 5)) n (M11 42 1) (M11 43)  -- p2.hp
        rw [hSe, h1, eP]
        rw [eP] at hch
        exact ⟨hP3, hPn, hPmin, hPR, hb0, hch⟩
    · -- b2.2
      have vP : v8 < P := by
        apply Classical.byContradiction
        intro c
        rw [show (P - v8).toNat = 0 by omega] at hR
        have : v7 = n := hR
        omega
      intro K59 h_K59
      have k_K59 : ∀ (v22 : Int), (gNx S n (P - v8) v7 v22) → K59 v22 := by
        intro v22 hk
        refine h_K59 _ ?_
        intro z_v22
        have o1 : zin (v8 + 1) := by
          first | with_reducible assumption | omega | exact trivial | with_reducible rfl  -- o1
        refine ⟨o1, ?_⟩
        intro M25 e_M25
        have o2 : ((0 : Int) ≤ (M25 42 1) ∧ (M25 42 1) < 413) := by
          rw [e_M25, zset_s]; omega
        refine ⟨o2, ?_⟩
        intro M29 e_M29
        have z : ∀ c k, c ≠ 43 → ¬ (c = 42 ∧ k = 1) → M29 c k = M c k := fun c k h1 h2 => by rw [e_M29, zset_n _ (by omega), e_M25, zset_n _ (by omega)]; exact hf c k h1 h2
        have z1 : M29 42 1 = v8 + 1 := by rw [e_M29, zset_n _ (by omega), e_M25, zset_s]
        have z43 : M29 43 (v8 + 1) = v22 := by rw [e_M29, e_M25, zset_s, zset_s]
        have z43o : ∀ p, p ≠ v8 + 1 → M29 43 p = M11 43 p := fun p h => by rw [e_M29, e_M25, zset_s, zset_n _ (by omega), zset_n _ (by omega)]
        refine ⟨Int.toNat (n - (v8 + 1)), by omega, by omega, ?_, ?_, ?_, ?_, ?_, ?_, ?_, ?_, ?_, ?_⟩
        · show 0 ≤ (v8 + 1) ∧ (v8 + 1) ≤ P  -- I16.1.hv
          first | with_reducible assumption | omega | exact trivial | with_reducible rfl
        · show 0 ≤ v22 ∧ v22 ≤ n  -- I16.1.h7
          have := hk.1; have := hk.2.1; omega
        · show ∀ c k, c ≠ 43 → ¬ (c = 42 ∧ k = 1) → M29 c k = M c k  -- I16.1.hf
          first | with_reducible assumption | omega | exact trivial | with_reducible rfl
        · show M29 42 1 = (v8 + 1)  -- I16.1.h1
          first | with_reducible assumption | omega | exact trivial | with_reducible rfl
        · show M29 43 (v8 + 1) = v22  -- I16.1.hb
          first | with_reducible assumption | omega | exact trivial | with_reducible rfl
        · show M29 43 0 = 0  -- I16.1.hb0
          rw [z43o 0 (by omega)]; exact hb0
        · show (v8 + 1) = 0 → v22 = 0  -- I16.1.h00
          intro h; omega
        · show ∀ p, 0 ≤ p → p < (v8 + 1) → gNx S n (P - p) (M29 43 p) (M29 43 (p + 1))  -- I16.1.hch
          intro p p0 p1
          by_cases c : p = v8
          · subst c; rw [z43, z43o p (by omega), hb]; exact hk
          · rw [z43o p (by omega), z43o (p + 1) (by omega)]; exact hch p p0 (by omega)
        · show gR S n (P - (v8 + 1)).toNat v22  -- I16.1.hR
          rw [show P - (v8 + 1) = P - v8 - 1 by omega]; exact hk.2.2.2.1
        · show ∀ p : Nat, gR S n p v22 → gR S n (Int.toNat (v8 + 1) + p) 0  -- I16.1.hpath
          intro p r
          have := hpath (p + 1) ⟨v22, hk.1, hk.2.1, hk.2.2.1, r⟩
          rw [show v8.toNat + (p + 1) = (v8 + 1).toNat + p by omega] at this
          exact this
      refine ⟨fun b3 => ?_, fun b3 => ?_⟩
      · -- b3.1
        intro K58 h_K58
        have k_K58 : ∀ (v36 : Int), (gNx S n (P - v8) v7 v36) → K58 v36 := by
          intro v36 hk2
          refine h_K58 _ ?_
          intro z_v36
          refine k_K59 _ ?_
          · show gNx S n (P - v8) v7 v36  -- K59.1.hk
            first | with_reducible assumption | omega | exact trivial | with_reducible rfl
        refine ⟨fun b4 => ?_, fun b4 => ?_⟩
        · -- b4.1
          have o3 : ((0 : Int) ≤ v7 ∧ v7 < 413) := by
            first | with_reducible assumption | omega | exact trivial | with_reducible rfl  -- o3
          refine ⟨o3, ?_⟩
          refine k_K58 _ ?_
          · show gNx S n (P - v8) v7 (M11 45 v7)  -- K58.1.hk2
            have w45 := hf 45 v7 (by omega) (by omega)
            rw [w45]
            have m := hmn v7 h7.1 h7.2
            have m1 := gMn_1 m (by omega)
            have lq : L v7 = P - v8 := by
              have le := m.2.2.2 _ hR
              have r := hpath _ m.2.2.1
              have := hPmin _ (by omega) r
              omega
            have rc := hrec v7 h7.1 (by omega)
            rcases rc.2 with ⟨s, e1, e2⟩ | ⟨s, e1, e2⟩
            · rw [e2]
              refine ⟨by omega, by omega, s, ?_, fun j j0 j1 => by omega⟩
              rw [show (P - v8 - 1).toNat = 0 by omega]
              rfl
            · rw [e2]
              have q2 : 2 ≤ P - v8 := by
                rcases hm2 v7 h7.1 (by omega) with ⟨a, _⟩ | ⟨a, _⟩
                · omega
                · omega
              exact gArg_nx (fun k k0 k1 => hmn k (by omega) k1) rc.1 (by omega) q2 (by omega)
        · -- b4.2
          have o4 : ((0 : Int) ≤ v7 ∧ v7 < 413) := by
            first | with_reducible assumption | omega | exact trivial | with_reducible rfl  -- o4
          refine ⟨o4, ?_⟩
          refine k_K58 _ ?_
          · show gNx S n (P - v8) v7 (M11 47 v7)  -- K58.2.hk2
            have w47 := hf 47 v7 (by omega) (by omega)
            rw [w47]
            have l2 : M 46 v7 = P - v8 := by
              rcases hm2 v7 h7.1 (by omega) with ⟨_, none⟩ | ⟨a1, a2, a3, a4⟩
              · exact absurd hR (none _ (by omega))
              · have le := a4 _ (by omega) hR
                have r := hpath _ a3
                have := hPmin _ (by omega) r
                omega
            exact gArg_nx (fun k k0 k1 => hmn k (by omega) k1) (hrec v7 h7.1 (by omega)).1 l2 (by omega) (by omega)
      · -- b3.2
        refine k_K59 _ ?_
        · show gNx S n (P - v8) v7 (M11 42 10)  -- K59.2.hk
          have w10 := hf 42 10 (by omega) (by omega)
          rw [w10, b3, h00 b3, show P - 0 = P by omega]; exact hP0

/-- the points of a border -/
def gX (G : Int → Int → Int) (f t : Int) (s : gS) (k : Int) : Int := (gE G f t s k).1
def gY (G : Int → Int → Int) (f t : Int) (s : gS) (k : Int) : Int := (gE G f t s k).2.1
/-- the class's pieces are those of face f with miss m -/
def bPk (M : zM) (f m : Int) : Prop := ∃ n, gPer (zg (M 1 0) (M 1 1) (M 12)) f (M 1 2) (gS0 (M 7 f)) n ∧ gPie (gStr (gX (zg (M 1 0) (M 1 1) (M 12)) f (M 1 2) (gS0 (M 7 f))) (gY (zg (M 1 0) (M 1 1) (M 12)) f (M 1 2) (gS0 (M 7 f))) m) n (M 42 1) (M 43)
theorem bPk.mem {M M' : zM} {f m : Int} (H : bPk M f m) (e0 : M' 1 0 = M 1 0) (e1 : M' 1 1 = M 1 1) (e2 : M' 1 2 = M 1 2) (e7 : M' 7 f = M 7 f) (e12 : M' 12 = M 12) (ea : M' 42 1 = M 42 1) (eb : M' 43 = M 43) : bPk M' f m := by
  unfold bPk at H ⊢
  rw [e0, e1, e2, e7, e12, ea, eb]
  exact H
theorem gStr_e {X Y X' Y' : Int → Int} {n m i j : Int} (h : ∀ k, 0 ≤ k → k ≤ n → X k = X' k ∧ Y k = Y' k) (i0 : 0 ≤ i) (ij : i < j) (jn : j ≤ n) : gStr X Y m i j ↔ gStr X' Y' m i j := by
  unfold gStr
  have hi := h i i0 (by omega)
  have hj := h j (by omega) jn
  constructor
  · intro g k k0 k1
    have hk := h k (by omega) (by omega)
    rw [← hi.1, ← hi.2, ← hj.1, ← hj.2, ← hk.1, ← hk.2]
    exact g k k0 k1
  · intro g k k0 k1
    have hk := h k (by omega) (by omega)
    rw [hi.1, hi.2, hj.1, hj.2, hk.1, hk.2]
    exact g k k0 k1
theorem bBk.XY {M : zM} {f : Int} (H : bBk M f) (hd : bDim M) (hF : bFok M) (ha : 0 ≤ f ∧ f < M 5 2) : bXY M ∧ 3 ≤ M 17 1 ∧ M 17 1 ≤ 412 ∧ ∀ k, 0 ≤ k → k < M 17 1 → 0 ≤ M 18 k ∧ M 18 k < 4 := by
  have V0 : gV (zg (M 1 0) (M 1 1) (M 12)) f (gS0 (M 7 f)) := gS0_V (by omega) hF.1 rfl ha.1 ha.2 rfl
  refine ⟨fun k k0 k1 => ?_, H.1.n3 V0, H.1.2.1, fun k k0 k1 => ?_⟩
  · have b := (gE_V (t := M 1 2) V0 k).bx ha.1
    have e := H.2.2.1 k k0 k1
    rw [e.1, e.2]
    omega
  · rw [H.2.1 k k0 k1]; exact (gE_V (t := M 1 2) V0 k).1
abbrev pr_X6_find (f : Int) (m : Int) (M : zM) : Prop := (bDim M) ∧ (M 1 2 = 0 ∨ M 1 2 = 1) ∧ (bFok M) ∧ (0 ≤ f ∧ f < M 5 2) ∧ (0 ≤ m ∧ m ≤ 400) ∧ (M 17 6 = M 5 1 → M 17 7 = f → bBk M f) ∧ (M 42 3 = M 5 1 → M 42 4 = f → M 42 5 = m → bPk M f m)
abbrev po_X6_find (f : Int) (m : Int) (M : zM) (M' : zM) : Prop := (∀ c i, ¬ (17 ≤ c ∧ c ≤ 22) → ¬ (42 ≤ c ∧ c ≤ 47) → M' c i = M c i) ∧ (M' 17 6 = M 5 1) ∧ (M' 17 7 = f) ∧ (bBk M' f) ∧ (M' 42 3 = M 5 1) ∧ (M' 42 4 = f) ∧ (M' 42 5 = m) ∧ (bPk M' f m)
set_option maxHeartbeats 4000000 in
theorem ok_X6_find : zSnd zS 145 0 0 yX6_find cX6_find 5 none 4 [2, 0, 0] (F_X6_find pr_X6_find po_X6_find) := by
  refine (sn_X6_find ok_X1_trace ok_X6_follow ok_X6_lookAhead).mono ?_
  rintro xs P M hz hR ⟨f, m, rfl, ⟨hd, ht, hF, ha, hm, hk, hkp⟩, hP⟩
  refine ⟨_, _, rfl, ?_⟩
  have z_f := zall_h (zall_t hz) (by decide)
  have z_m := zall_h (zall_t (zall_t hz)) (by decide)
  change vc_X6_find pr_X1_trace po_X1_trace pr_X6_follow po_X6_follow pr_X6_lookAhead po_X6_lookAhead f m P M
  unfold vc_X6_find
  have gc1 : pr_X1_trace f M := by
    refine ⟨?_, ?_, ?_, ?_, ?_⟩
    · show bDim M  -- c1.hd
      first | with_reducible assumption | omega | exact trivial | with_reducible rfl
    · show M 1 2 = 0 ∨ M 1 2 = 1  -- c1.ht
      first | with_reducible assumption | omega | exact trivial | with_reducible rfl
    · show bFok M  -- c1.hF
      first | with_reducible assumption | omega | exact trivial | with_reducible rfl
    · show 0 ≤ f ∧ f < M 5 2  -- c1.ha
      first | with_reducible assumption | omega | exact trivial | with_reducible rfl
    · show M 17 6 = M 5 1 → M 17 7 = f → bBk M f  -- c1.hk
      first | with_reducible assumption | omega | exact trivial | with_reducible rfl
  refine ⟨gc1, ?_⟩
  rintro M1 ⟨pc1_hf, pc1_h6, pc1_h7, pc1_hB⟩ z_M1
  have w0 := pc1_hf 1 0 (by omega) (by omega) (by omega) (by omega) (by omega)
  have w1 := pc1_hf 1 1 (by omega) (by omega) (by omega) (by omega) (by omega)
  have w2 := pc1_hf 1 2 (by omega) (by omega) (by omega) (by omega) (by omega)
  have w12 : M1 12 = M 12 := funext fun i => pc1_hf 12 i (by omega) (by omega) (by omega) (by omega) (by omega)
  have w52 := pc1_hf 5 2 (by omega) (by omega) (by omega) (by omega) (by omega)
  have w7 := pc1_hf 7 f (by omega) (by omega) (by omega) (by omega) (by omega)
  have hF1 : bFok M1 := hF.mem w0 w1 w2 (funext fun i => pc1_hf 2 i (by omega) (by omega) (by omega) (by omega) (by omega)) w52 (fun c i c1 c2 => pc1_hf c i (by omega) (by omega) (by omega) (by omega) (by omega))
  have hd1 : bDim M1 := by unfold bDim; omega
  obtain ⟨XY, n3, n412, W4⟩ := bBk.XY pc1_hB hd1 hF1 (by omega)
  intro K39 h_K39
  have k_K39 : True → K39  := by
    intro  _
    refine h_K39 ?_
    intro M6 e_M6
    intro M9 e_M9
    intro M12 e_M12
    have q : ∀ c i, ¬ (42 ≤ c ∧ c ≤ 47) → M12 c i = M1 c i := fun c i h => by rw [e_M12, zset_n _ (by omega), e_M9, zset_n _ (by omega), e_M6, zset_n _ (by omega)]
    have n12 : M12 17 1 = M1 17 1 := by rw [e_M12, zset_n _ (by omega), e_M9, zset_n _ (by omega), e_M6, zset_n _ (by omega)]
    have q3 : M12 42 3 = M 5 1 := by rw [e_M12, zset_n _ (by omega), e_M9, zset_n _ (by omega), e_M6, zset_s]; exact pc1_h6
    have q4 : M12 42 4 = f := by rw [e_M12, zset_n _ (by omega), e_M9, zset_s]
    have q5 : M12 42 5 = m := by rw [e_M12, zset_s]
    rw [n12]
    have o1 : zin ((M1 17 1) - 1) := by
      first | with_reducible assumption | omega | exact trivial | with_reducible rfl  -- o1
    refine ⟨o1, ?_⟩
    refine ⟨fun v15 M18 n20 => (n20 : Int) = (v15 + 1) ∧ (-1 ≤ v15 ∧ v15 < M1 17 1) ∧ (∀ c i, ¬ (43 ≤ c ∧ c ≤ 47) → ¬ (c = 42 ∧ (i = 10 ∨ i = 11)) → M18 c i = M12 c i) ∧ (∀ i, v15 < i → i < M1 17 1 → gRec (gStr (M1 19) (M1 20) m) (M1 17 1) (M18 44) (M18 45) (M18 46) (M18 47) i) ∧ (∀ i, v15 < i → i < M1 17 1 → 0 ≤ M18 46 i ∧ M18 46 i ≤ 1000000) ∧ (v15 < 0 → ∃ b, gArg (M18 46) (gStr (M1 19) (M1 20) m 0) 0 (M1 17 1) b (M18 42 10)), ⟨Int.toNat (((M1 17 1) - 1) + 1), by omega, ?_, ?_, ?_, ?_, ?_⟩, ?_⟩
    · show -1 ≤ ((M1 17 1) - 1) ∧ ((M1 17 1) - 1) < M1 17 1  -- I73#1.0.hv
      first | with_reducible assumption | omega | exact trivial | with_reducible rfl
    · show ∀ c i, ¬ (43 ≤ c ∧ c ≤ 47) → ¬ (c = 42 ∧ (i = 10 ∨ i = 11)) → M12 c i = M12 c i  -- I73#1.0.hf
      intro _ _ _ _; rfl
    · show ∀ i, ((M1 17 1) - 1) < i → i < M1 17 1 → gRec (gStr (M1 19) (M1 20) m) (M1 17 1) (M12 44) (M12 45) (M12 46) (M12 47) i  -- I73#1.0.hrec
      intro i i0 i1; omega
    · show ∀ i, ((M1 17 1) - 1) < i → i < M1 17 1 → 0 ≤ M12 46 i ∧ M12 46 i ≤ 1000000  -- I73#1.0.hb46
      intro i i0 i1; omega
    · show ((M1 17 1) - 1) < 0 → ∃ b, gArg (M12 46) (gStr (M1 19) (M1 20) m 0) 0 (M1 17 1) b (M12 42 10)  -- I73#1.0.h3
      intro h; omega
    rintro v15 M18 n20 ⟨h_n20, hv, hf, hrec, hb46, h3⟩ z_v15 z_M18
    have y1 := (hf 17 1 (by omega) (by omega)).trans (q 17 1 (by omega))
    have y19 : M18 19 = M1 19 := funext fun i => (hf 19 i (by omega) (by omega)).trans (q 19 i (by omega))
    have y20 : M18 20 = M1 20 := funext fun i => (hf 20 i (by omega) (by omega)).trans (q 20 i (by omega))
    have y5 := (hf 42 5 (by omega) (by omega)).trans q5
    have mn : ∀ j, v15 < j → j < M1 17 1 → 0 ≤ j → gMn (gStr (M1 19) (M1 20) m) (M1 17 1) j (M18 44 j) := fun j j0 j1 j2 => gRec_mn' (fun i => gStr_1) n412 (show 0 ≤ max 0 (v15 + 1) by omega) (fun i i0 i1 => hrec i (by omega) i1) j (by omega) j1
    refine ⟨fun b1 => ?_, fun b1 => ?_⟩
    · -- b1.1
      have gc2 : pr_X6_follow (M1 17 1) M18 := by
        refine ⟨?_, ?_, ?_⟩
        · show 3 ≤ (M1 17 1) ∧ (M1 17 1) ≤ 412  -- c2.hn
          first | with_reducible assumption | omega | exact trivial | with_reducible rfl
        · show ∀ i, 0 ≤ i → i < (M1 17 1) → gRec (gStr (M18 19) (M18 20) (M18 42 5)) (M1 17 1) (M18 44) (M18 45) (M18 46) (M18 47) i  -- c2.hrec0
          rw [y19, y20, y5]; intro i i0 i1; exact hrec i (by omega) i1
        · show ∃ b, gArg (M18 46) (gStr (M18 19) (M18 20) (M18 42 5) 0) 0 (M1 17 1) b (M18 42 10)  -- c2.h3
          rw [y19, y20, y5]; exact h3 b1
      refine ⟨gc2, ?_⟩
      rintro M28 ⟨pc2_hf, pc2_hp⟩ z_M28
      rw [y19, y20, y5] at pc2_hp
      have z : ∀ c i, ¬ (42 ≤ c ∧ c ≤ 47) → M28 c i = M1 c i := fun c i h => by rw [pc2_hf c i (by omega) (by omega), hf c i (by omega) (by omega)]; exact q c i h
      have z0 := z 1 0 (by omega)
      have z1 := z 1 1 (by omega)
      have z2 := z 1 2 (by omega)
      have z7 := z 7 f (by omega)
      have z12 : M28 12 = M1 12 := funext fun i => z 12 i (by omega)
      refine hP _ ⟨?_, ?_, ?_, ?_, ?_, ?_, ?_, ?_⟩
      · show ∀ c i, ¬ (17 ≤ c ∧ c ≤ 22) → ¬ (42 ≤ c ∧ c ≤ 47) → M28 c i = M c i  -- p1.hf
        intro c i h1 h2; rw [z c i h2]; exact pc1_hf c i (by omega) (by omega) (by omega) (by omega) (by omega)
      · show M28 17 6 = M 5 1  -- p1.h6
        rw [z 17 6 (by omega)]; exact pc1_h6
      · show M28 17 7 = f  -- p1.h7
        rw [z 17 7 (by omega)]; exact pc1_h7
      · show bBk M28 f  -- p1.hB
        exact pc1_hB.mem z0 z1 z2 z7 z12 (z 17 1 (by omega)) (z 17 8 (by omega)) (funext fun i => z 18 i (by omega)) (funext fun i => z 19 i (by omega)) (funext fun i => z 20 i (by omega)) (funext fun i => z 22 i (by omega))
      · show M28 42 3 = M 5 1  -- p1.p3
        rw [pc2_hf 42 3 (by omega) (by omega), hf 42 3 (by omega) (by omega)]; exact q3
      · show M28 42 4 = f  -- p1.p4
        rw [pc2_hf 42 4 (by omega) (by omega), hf 42 4 (by omega) (by omega)]; exact q4
      · show M28 42 5 = m  -- p1.p5
        rw [pc2_hf 42 5 (by omega) (by omega), hf 42 5 (by omega) (by omega)]; exact q5
      · show bPk M28 f m  -- p1.hP
        unfold bPk
        rw [z0, z1, z2, z7, z12]
        refine ⟨M1 17 1, pc1_hB.1, pc2_hp.cong (fun i j i0 ij jn => gStr_e (n := M1 17 1) (fun k k0 k1 => ?_) i0 ij jn)⟩
        exact pc1_hB.2.2.1 k k0 k1
    · -- b1.2
      have gc3 : pr_X6_lookAhead v15 (M1 17 1) m M18 := by
        refine ⟨?_, ?_, ?_, ?_, ?_, ?_, ?_⟩
        · show (M1 17 1) = M18 17 1 ∧ 3 ≤ (M1 17 1) ∧ (M1 17 1) ≤ 412  -- c3.hn
          exact ⟨y1.symm, n3, n412⟩
        · show bXY M18  -- c3.hX
          exact XY.mem y1 y19 y20
        · show 0 ≤ v15 ∧ v15 < (M1 17 1)  -- c3.hi
          omega
        · show 0 ≤ m ∧ m ≤ 400  -- c3.hm
          first | with_reducible assumption | omega | exact trivial | with_reducible rfl
        · show ∀ j, v15 < j → j < (M1 17 1) → 0 ≤ M18 44 j ∧ M18 44 j ≤ 412  -- c3.hl
          intro j j0 j1; have := mn j j0 j1 (by omega); have := this.1; have := (mn j j0 j1 (by omega)).2.1; omega
        · show ∀ j, v15 < j → j < (M1 17 1) → 0 ≤ M18 46 j ∧ M18 46 j ≤ 1000000  -- c3.hl2
          exact hb46
        · show v15 < (M1 17 1) - 1 → ∃ j, v15 < j ∧ j < (M1 17 1) ∧ gStr (M18 19) (M18 20) m v15 j  -- c3.hex
          intro h; exact ⟨v15 + 1, by omega, by omega, gStr_1⟩
      refine ⟨gc3, ?_⟩
      rintro M33 ⟨pc3_hf, pc3_h2, pc3_h1, pc3_h3, pc3_h3n, pc3_hb, pc3_hbl⟩ z_M33
      rw [y19, y20] at pc3_h2 pc3_h1 pc3_h3
      have x44 : ∀ j, j ≠ v15 → M33 44 j = M18 44 j := fun j h => pc3_hf 44 j (by omega) (by omega)
      have x45 : ∀ j, j ≠ v15 → M33 45 j = M18 45 j := fun j h => pc3_hf 45 j (by omega) (by omega)
      have x46 : ∀ j, j ≠ v15 → M33 46 j = M18 46 j := fun j h => pc3_hf 46 j (by omega) (by omega)
      have x47 : ∀ j, j ≠ v15 → M33 47 j = M18 47 j := fun j h => pc3_hf 47 j (by omega) (by omega)
      have o2 : zin (v15 + (-1)) := by
        first | with_reducible assumption | omega | exact trivial | with_reducible rfl  -- o2
      refine ⟨o2, ?_⟩
      refine ⟨Int.toNat ((v15 + (-1)) + 1), by omega, by omega, ?_, ?_, ?_, ?_, ?_⟩
      · show -1 ≤ (v15 + (-1)) ∧ (v15 + (-1)) < M1 17 1  -- I73.1.hv
        first | with_reducible assumption | omega | exact trivial | with_reducible rfl
      · show ∀ c i, ¬ (43 ≤ c ∧ c ≤ 47) → ¬ (c = 42 ∧ (i = 10 ∨ i = 11)) → M33 c i = M12 c i  -- I73.1.hf
        intro c i h1 h2; rw [pc3_hf c i (by omega) (by omega)]; exact hf c i h1 h2
      · show ∀ i, (v15 + (-1)) < i → i < M1 17 1 → gRec (gStr (M1 19) (M1 20) m) (M1 17 1) (M33 44) (M33 45) (M33 46) (M33 47) i  -- I73.1.hrec
        intro i i0 i1
        by_cases c : i = v15
        · subst c
          exact ⟨pc3_h2.cong (fun j j0 j1 => x44 j (by omega)), pc3_h1⟩
        · exact (hrec i (by omega) i1).cong (fun j j0 j1 => x44 j (by omega)) (x45 i c) (x46 i c) (x47 i c) i1
      · show ∀ i, (v15 + (-1)) < i → i < M1 17 1 → 0 ≤ M33 46 i ∧ M33 46 i ≤ 1000000  -- I73.1.hb46
        intro i i0 i1
        by_cases c : i = v15
        · subst c; omega
        · rw [x46 i c]; exact hb46 i (by omega) i1
      · show (v15 + (-1)) < 0 → ∃ b, gArg (M33 46) (gStr (M1 19) (M1 20) m 0) 0 (M1 17 1) b (M33 42 10)  -- I73.1.h3
        intro h
        have e0 : v15 = 0 := by omega
        obtain ⟨b, hb⟩ := pc3_h3 e0
        exact ⟨b, hb.cong (fun j j0 j1 => x46 j (by omega))⟩
  refine ⟨fun b2 => ?_, fun b2 => ?_⟩
  · -- b2.1
    exact k_K39 trivial
  · -- b2.2
    refine ⟨fun b3 => ?_, fun b3 => ?_⟩
    · -- b3.1
      exact k_K39 trivial
    · -- b3.2
      refine ⟨fun b4 => ?_, fun b4 => ?_⟩
      · -- b4.1
        exact k_K39 trivial
      · -- b4.2
        refine hP _ ⟨?_, ?_, ?_, ?_, ?_, ?_, ?_, ?_⟩
        · show ∀ c i, ¬ (17 ≤ c ∧ c ≤ 22) → ¬ (42 ≤ c ∧ c ≤ 47) → M1 c i = M c i  -- p2.hf
          intro c i h1 h2; exact pc1_hf c i (by omega) (by omega) (by omega) (by omega) (by omega)
        · show M1 17 6 = M 5 1  -- p2.h6
          first | with_reducible assumption | omega | exact trivial | with_reducible rfl
        · show M1 17 7 = f  -- p2.h7
          first | with_reducible assumption | omega | exact trivial | with_reducible rfl
        · show bBk M1 f  -- p2.hB
          first | with_reducible assumption | omega | exact trivial | with_reducible rfl
        · show M1 42 3 = M 5 1  -- p2.p3
          rw [b2]; exact pc1_h6
        · show M1 42 4 = f  -- p2.p4
          first | with_reducible assumption | omega | exact trivial | with_reducible rfl
        · show M1 42 5 = m  -- p2.p5
          first | with_reducible assumption | omega | exact trivial | with_reducible rfl
        · show bPk M1 f m  -- p2.hP
          have e3 := pc1_hf 42 3 (by omega) (by omega) (by omega) (by omega) (by omega)
          have e4 := pc1_hf 42 4 (by omega) (by omega) (by omega) (by omega) (by omega)
          have e5 := pc1_hf 42 5 (by omega) (by omega) (by omega) (by omega) (by omega)
          exact (hkp (by rw [← e3, b2]; exact pc1_h6) (by omega) (by omega)).mem w0 w1 w2 w7 w12 (pc1_hf 42 1 (by omega) (by omega) (by omega) (by omega) (by omega)) (funext fun i => pc1_hf 43 i (by omega) (by omega) (by omega) (by omega) (by omega))

