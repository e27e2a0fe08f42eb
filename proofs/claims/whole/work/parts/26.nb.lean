/-- a row of dots as a field, -1 outside -/
def zg (w h : Int) (L : Int → Int) (x y : Int) : Int := if 0 ≤ x ∧ x < w ∧ 0 ≤ y ∧ y < h then L (16 * y + x) else -1
theorem zg_i {w h x y : Int} {L : Int → Int} (c : 0 ≤ x ∧ x < w ∧ 0 ≤ y ∧ y < h) : zg w h L x y = L (16 * y + x) := if_pos c
theorem zg_o {w h x y : Int} {L : Int → Int} (c : ¬ (0 ≤ x ∧ x < w ∧ 0 ≤ y ∧ y < h)) : zg w h L x y = -1 := if_neg c
theorem zg_D {w h k : Int} {L : Int → Int} (c : gD w h k) (hw : w ≤ 16) : zg w h L (k % 16) (k / 16) = L k := by
  rw [zg_i (by omega), show 16 * (k / 16) + k % 16 = k by omega]
theorem zg_ge {w h x y v : Int} {L : Int → Int} (e : zg w h L x y = v) (hv : 0 ≤ v) : 0 ≤ x ∧ x < w ∧ 0 ≤ y ∧ y < h ∧ L (16 * y + x) = v := by
  unfold zg at e
  split at e
  · rename_i c; exact ⟨c.1, c.2.1, c.2.2.1, c.2.2.2, e⟩
  · omega
def gNear (w h : Int) (L : Int → Int) (x y b : Int) : Prop := ∃ dx dy, gOff 0 dx dy ∧ zg w h L (x + dx) (y + dy) = b
/-- part a has a side in common with part b -/
def gNB (w h : Int) (L : Int → Int) (a b : Int) : Prop := ∃ k, gD w h k ∧ L k = a ∧ gNear w h L (k % 16) (k / 16) b
theorem bFI.box {w h : Int} {M : zM} {k : Int} (H : bFI w h M k) (hw : w ≤ 16) (hh : h ≤ 12) : (∀ x, gD w h x → M 12 x = k → M 8 k ≤ x % 16 ∧ x % 16 ≤ M 10 k ∧ M 9 k ≤ x / 16 ∧ x / 16 ≤ M 11 k) ∧ 0 ≤ M 8 k ∧ M 8 k ≤ M 10 k ∧ M 10 k < w ∧ 0 ≤ M 9 k ∧ M 9 k ≤ M 11 k ∧ M 11 k < h := by
  obtain ⟨h0, ⟨x1, d1, e1, f1⟩, ⟨x2, d2, e2, f2⟩, ⟨x3, d3, e3, f3⟩, ⟨x4, d4, e4, f4⟩⟩ := H.2
  refine ⟨h0, ?_⟩
  have a1 := h0 x1 d1 e1
  have a2 := h0 x2 d2 e2
  have a3 := h0 x3 d3 e3
  have a4 := h0 x4 d4 e4
  omega
theorem bFok.N {M : zM} (h : bFok M) (hd : bDim M) : 0 ≤ M 5 2 ∧ M 5 2 ≤ 192 := ⟨h.1.nn, h.1.le (a := 192) (fun x d => d.1) (fun x d => by omega) (by decide)⟩
theorem zdx4 {d : Int} (h0 : 0 ≤ d) (h4 : d < 4) : zac d.toNat = zdx d ∧ zdn d.toNat = zdy d := by
  have : d = 0 ∨ d = 1 ∨ d = 2 ∨ d = 3 := by omega
  rcases this with rfl | rfl | rfl | rfl <;> decide
theorem gNear4 {w h : Int} {L : Int → Int} {x y b : Int} : gNear w h L x y b ↔ ∃ d, 0 ≤ d ∧ d < 4 ∧ zg w h L (x + zdx d) (y + zdy d) = b := by
  constructor
  · rintro ⟨dx, dy, o, e⟩
    obtain ⟨d, d0, d1, e1, e2⟩ := gOff_m' o
    exact ⟨d, d0, by rw [if_pos rfl] at d1; exact d1, by rw [e1, e2]; exact e⟩
  · rintro ⟨d, d0, d1, e⟩
    exact ⟨zdx d, zdy d, gOff_m d0 (by rw [if_pos rfl]; exact d1), e⟩
abbrev pr_X2_hasBeside (x : Int) (y : Int) (g : Int) (M : zM) : Prop := (bDim M) ∧ (-1 ≤ x ∧ x ≤ 20) ∧ (-1 ≤ y ∧ y ≤ 20)
abbrev po_X2_hasBeside (x : Int) (y : Int) (g : Int) (M : zM) (r : Int) (M' : zM) : Prop := (M' = M) ∧ (zB r (gNear (M 1 0) (M 1 1) (M 12) x y g))
set_option maxHeartbeats 1000000 in
theorem ok_X2_hasBeside : zSnd zS 145 0 0 yX2_hasBeside cX2_hasBeside 5 (some .boolean) 1 [2, 0, 0, 0] (F_X2_hasBeside pr_X2_hasBeside po_X2_hasBeside) := by
  refine (sn_X2_hasBeside ok_X2_faceAt).mono ?_
  rintro xs P M hz hR ⟨x, y, g, rfl, ⟨hd, hx, hy⟩, hP⟩
  refine ⟨_, _, _, rfl, ?_⟩
  have z_x := zall_h (zall_t hz) (by decide)
  have z_y := zall_h (zall_t (zall_t hz)) (by decide)
  have z_g := zall_h (zall_t (zall_t (zall_t hz))) (by decide)
  change vc_X2_hasBeside pr_X2_faceAt po_X2_faceAt x y g P M
  unfold vc_X2_hasBeside
  refine ⟨fun v1 M3 n5 => (n5 : Int) = (4 - v1) ∧ (0 ≤ v1 ∧ v1 ≤ 4) ∧ (M3 = M) ∧ (∀ d, 0 ≤ d → d < v1 → zg (M 1 0) (M 1 1) (M 12) (x + zdx d) (y + zdy d) ≠ g), ⟨Int.toNat (4 - 0), by omega, ?_, ?_, ?_⟩, ?_⟩
  · show 0 ≤ 0 ∧ 0 ≤ 4  -- I3.0.hv
    first | with_reducible assumption | omega | exact trivial | with_reducible rfl
  · first | with_reducible assumption | omega | exact trivial | with_reducible rfl  -- I3.0.rfl
  · show ∀ d, 0 ≤ d → d < 0 → zg (M 1 0) (M 1 1) (M 12) (x + zdx d) (y + zdy d) ≠ g  -- I3.0.hno
    first | with_reducible assumption | omega | exact trivial | with_reducible rfl
  rintro v1 M3 n5 ⟨h_n5, hv, q_rfl, hno⟩ z_v1 z_M3
  have q_rfl := q_rfl.symm
  subst q_rfl
  refine ⟨fun b1 => ?_, fun b1 => ?_⟩
  · -- b1.1
    refine hP _ _ ⟨?_, ?_⟩
    · show M = M  -- p1.rfl
      first | with_reducible assumption | omega | exact trivial | with_reducible rfl
    · show zB 0 (gNear (M 1 0) (M 1 1) (M 12) x y g)  -- p1.pb
      refine zB.f (fun c => ?_)
      obtain ⟨d, d0, d1, e⟩ := gNear4.1 c
      exact hno d d0 (by omega) e
  · -- b1.2
    have zz := zac_b hv.1 (show v1 < 8 by omega)
    have z4 := zdx4 hv.1 (show v1 < 4 by omega)
    have o1 : ((0 : Int) ≤ v1 ∧ v1 < 8) := by
      first | with_reducible assumption | omega | exact trivial | with_reducible rfl  -- o1
    refine ⟨o1, ?_⟩
    have o2 : zin (y + (zdn (Int.toNat v1))) := by
      first | with_reducible assumption | omega | exact trivial | with_reducible rfl  -- o2
    refine ⟨o2, ?_⟩
    have o3 : zin (x + (zac (Int.toNat v1))) := by
      first | with_reducible assumption | omega | exact trivial | with_reducible rfl  -- o3
    refine ⟨o3, ?_⟩
    have gc1 : pr_X2_faceAt (x + (zac (Int.toNat v1))) (y + (zdn (Int.toNat v1))) M := by
      show bDim M
      first | with_reducible assumption | omega | exact trivial | with_reducible rfl  -- c1.hd
    refine ⟨gc1, ?_⟩
    rintro r16 M17 ⟨q_rfl, e_r16⟩ z_r16 z_M17
    have q_rfl := q_rfl.symm
    subst q_rfl
    have e2 : r16 = zg (M 1 0) (M 1 1) (M 12) (x + zdx v1) (y + zdy v1) := by rw [← z4.1, ← z4.2]; exact e_r16
    refine ⟨fun b2 => ?_, fun b2 => ?_⟩
    · -- b2.1
      have o4 : zin (v1 + 1) := by
        first | with_reducible assumption | omega | exact trivial | with_reducible rfl  -- o4
      refine ⟨o4, ?_⟩
      refine ⟨Int.toNat (4 - (v1 + 1)), by omega, by omega, ?_, ?_, ?_⟩
      · show 0 ≤ (v1 + 1) ∧ (v1 + 1) ≤ 4  -- I3.1.hv
        first | with_reducible assumption | omega | exact trivial | with_reducible rfl
      · first | with_reducible assumption | omega | exact trivial | with_reducible rfl  -- I3.1.rfl
      · show ∀ d, 0 ≤ d → d < (v1 + 1) → zg (M 1 0) (M 1 1) (M 12) (x + zdx d) (y + zdy d) ≠ g  -- I3.1.hno
        intro d d0 d1 e
        by_cases c : d = v1
        · subst c; exact b2 (e2.trans e)
        · exact hno d d0 (by omega) e
    · -- b2.2
      refine hP _ _ ⟨?_, ?_⟩
      · show M = M  -- p2.rfl
        first | with_reducible assumption | omega | exact trivial | with_reducible rfl
      · show zB 1 (gNear (M 1 0) (M 1 1) (M 12) x y g)  -- p2.pb
        exact zB.t (gNear4.2 ⟨v1, hv.1, by omega, by rw [← e2]; exact b2⟩)

abbrev pr_X2_areBeside (a : Int) (b : Int) (M : zM) : Prop := (bDim M) ∧ (bFok M) ∧ (0 ≤ a ∧ a < M 5 2)
abbrev po_X2_areBeside (a : Int) (b : Int) (M : zM) (r : Int) (M' : zM) : Prop := (M' = M) ∧ (zB r (gNB (M 1 0) (M 1 1) (M 12) a b))
set_option maxHeartbeats 1000000 in
theorem ok_X2_areBeside : zSnd zS 145 0 0 yX2_areBeside cX2_areBeside 5 (some .boolean) 2 [2, 0, 0] (F_X2_areBeside pr_X2_areBeside po_X2_areBeside) := by
  refine (sn_X2_areBeside ok_X2_faceAt ok_X2_hasBeside).mono ?_
  rintro xs P M hz hR ⟨a, b, rfl, ⟨hd, hF, ha⟩, hP⟩
  refine ⟨_, _, rfl, ?_⟩
  have z_a := zall_h (zall_t hz) (by decide)
  have z_b := zall_h (zall_t (zall_t hz)) (by decide)
  change vc_X2_areBeside pr_X2_faceAt po_X2_faceAt pr_X2_hasBeside po_X2_hasBeside a b P M
  unfold vc_X2_areBeside
  have hN := hF.N hd
  have hB := (hF.2.2 a ha.1 ha.2).box (by omega) (by omega)
  obtain ⟨hb, hb2⟩ := hB
  have o1 : ((0 : Int) ≤ a ∧ a < 192) := by
    first | with_reducible assumption | omega | exact trivial | with_reducible rfl  -- o1
  refine ⟨o1, ?_⟩
  refine ⟨fun v2 M4 n6 => (n6 : Int) = (20 - v2) ∧ (0 ≤ v2 ∧ v2 ≤ M 11 a + 1) ∧ (M4 = M) ∧ (∀ k, gD (M 1 0) (M 1 1) k → k < 16 * v2 → M 12 k = a → ¬ gNear (M 1 0) (M 1 1) (M 12) (k % 16) (k / 16) b), ⟨Int.toNat (20 - (M 9 a)), by omega, ?_, ?_, ?_⟩, ?_⟩
  · show 0 ≤ (M 9 a) ∧ (M 9 a) ≤ M 11 a + 1  -- I7.0.hv
    first | with_reducible assumption | omega | exact trivial | with_reducible rfl
  · first | with_reducible assumption | omega | exact trivial | with_reducible rfl  -- I7.0.rfl
  · show ∀ k, gD (M 1 0) (M 1 1) k → k < 16 * (M 9 a) → M 12 k = a → ¬ gNear (M 1 0) (M 1 1) (M 12) (k % 16) (k / 16) b  -- I7.0.hno
    intro k dk l e; have := hb k dk e; omega
  rintro v2 M4 n6 ⟨h_n6, hv, q_rfl, hno⟩ z_v2 z_M4
  have q_rfl := q_rfl.symm
  subst q_rfl
  refine ⟨fun b1 => ?_, fun b1 => ?_⟩
  · -- b1.1
    refine hP _ _ ⟨?_, ?_⟩
    · show M = M  -- p1.rfl
      first | with_reducible assumption | omega | exact trivial | with_reducible rfl
    · show zB 0 (gNB (M 1 0) (M 1 1) (M 12) a b)  -- p1.pb
      refine zB.f ?_
      rintro ⟨k, dk, e, n⟩
      have := hb k dk e
      exact hno k dk (by omega) e n
  · -- b1.2
    refine ⟨fun v14 M16 n18 => (n18 : Int) = (20 - v14) ∧ (0 ≤ v14 ∧ v14 ≤ M 10 a + 1) ∧ (M16 = M) ∧ (∀ k, gD (M 1 0) (M 1 1) k → k < 16 * v2 + v14 → M 12 k = a → ¬ gNear (M 1 0) (M 1 1) (M 12) (k % 16) (k / 16) b), ⟨Int.toNat (20 - (M 8 a)), by omega, ?_, ?_, ?_⟩, ?_⟩
    · show 0 ≤ (M 8 a) ∧ (M 8 a) ≤ M 10 a + 1  -- I25.0.hv2
      first | with_reducible assumption | omega | exact trivial | with_reducible rfl
    · first | with_reducible assumption | omega | exact trivial | with_reducible rfl  -- I25.0.rfl
    · show ∀ k, gD (M 1 0) (M 1 1) k → k < 16 * v2 + (M 8 a) → M 12 k = a → ¬ gNear (M 1 0) (M 1 1) (M 12) (k % 16) (k / 16) b  -- I25.0.hno2
      intro k dk l e; have := hb k dk e; exact hno k dk (by omega) e
    rintro v14 M16 n18 ⟨h_n18, hv2, q_rfl, hno2⟩ z_v14 z_M16
    have q_rfl := q_rfl.symm
    subst q_rfl
    refine ⟨fun b2 => ?_, fun b2 => ?_⟩
    · -- b2.1
      have o2 : zin (v2 + 1) := by
        first | with_reducible assumption | omega | exact trivial | with_reducible rfl  -- o2
      refine ⟨o2, ?_⟩
      refine ⟨Int.toNat (20 - (v2 + 1)), by omega, by omega, ?_, ?_, ?_⟩
      · show 0 ≤ (v2 + 1) ∧ (v2 + 1) ≤ M 11 a + 1  -- I7.1.hv
        first | with_reducible assumption | omega | exact trivial | with_reducible rfl
      · first | with_reducible assumption | omega | exact trivial | with_reducible rfl  -- I7.1.rfl
      · show ∀ k, gD (M 1 0) (M 1 1) k → k < 16 * (v2 + 1) → M 12 k = a → ¬ gNear (M 1 0) (M 1 1) (M 12) (k % 16) (k / 16) b  -- I7.1.hno
        intro k dk l e; have := hb k dk e; exact hno2 k dk (by omega) e
    · -- b2.2
      have gc1 : pr_X2_faceAt v14 v2 M := by
        show bDim M
        first | with_reducible assumption | omega | exact trivial | with_reducible rfl  -- c1.hd
      refine ⟨gc1, ?_⟩
      rintro r30 M31 ⟨q_rfl, e_r30⟩ z_r30 z_M31
      have q_rfl := q_rfl.symm
      subst q_rfl
      have e3 : r30 = M 12 (16 * v2 + v14) := e_r30.trans (zg_i (L := M 12) (by omega))
      refine ⟨fun b3 => ?_, fun b3 => ?_⟩
      · -- b3.1
        have o3 : zin (v14 + 1) := by
          first | with_reducible assumption | omega | exact trivial | with_reducible rfl  -- o3
        refine ⟨o3, ?_⟩
        refine ⟨Int.toNat (20 - (v14 + 1)), by omega, by omega, ?_, ?_, ?_⟩
        · show 0 ≤ (v14 + 1) ∧ (v14 + 1) ≤ M 10 a + 1  -- I25.1.hv2
          first | with_reducible assumption | omega | exact trivial | with_reducible rfl
        · first | with_reducible assumption | omega | exact trivial | with_reducible rfl  -- I25.1.rfl
        · show ∀ k, gD (M 1 0) (M 1 1) k → k < 16 * v2 + (v14 + 1) → M 12 k = a → ¬ gNear (M 1 0) (M 1 1) (M 12) (k % 16) (k / 16) b  -- I25.1.hno2
          intro k dk l e
          by_cases c : k = 16 * v2 + v14
          · subst c; exact absurd (e3.trans e) b3
          · exact hno2 k dk (by omega) e
      · -- b3.2
        have gc2 : pr_X2_hasBeside v14 v2 b M := by
          refine ⟨?_, ?_, ?_⟩
          · show bDim M  -- c2.hd
            first | with_reducible assumption | omega | exact trivial | with_reducible rfl
          · show -1 ≤ v14 ∧ v14 ≤ 20  -- c2.hx
            first | with_reducible assumption | omega | exact trivial | with_reducible rfl
          · show -1 ≤ v2 ∧ v2 ≤ 20  -- c2.hy
            first | with_reducible assumption | omega | exact trivial | with_reducible rfl
        refine ⟨gc2, ?_⟩
        rintro r41 M42 ⟨q_rfl, pc2_pb⟩ z_r41 z_M42
        have q_rfl := q_rfl.symm
        subst q_rfl
        refine ⟨fun b4 => ?_, fun b4 => ?_⟩
        · -- b4.1
          have o4 : zin (v14 + 1) := by
            first | with_reducible assumption | omega | exact trivial | with_reducible rfl  -- o4
          refine ⟨o4, ?_⟩
          refine ⟨Int.toNat (20 - (v14 + 1)), by omega, by omega, ?_, ?_, ?_⟩
          · show 0 ≤ (v14 + 1) ∧ (v14 + 1) ≤ M 10 a + 1  -- I25.2.hv2
            first | with_reducible assumption | omega | exact trivial | with_reducible rfl
          · first | with_reducible assumption | omega | exact trivial | with_reducible rfl  -- I25.2.rfl
          · show ∀ k, gD (M 1 0) (M 1 1) k → k < 16 * v2 + (v14 + 1) → M 12 k = a → ¬ gNear (M 1 0) (M 1 1) (M 12) (k % 16) (k / 16) b  -- I25.2.hno2
            intro k dk l e
            by_cases c : k = 16 * v2 + v14
            · subst c
              rw [show (16 * v2 + v14) % 16 = v14 by omega, show (16 * v2 + v14) / 16 = v2 by omega]
              exact pc2_pb.z.1 b4
            · exact hno2 k dk (by omega) e
        · -- b4.2
          refine hP _ _ ⟨?_, ?_⟩
          · show M = M  -- p2.rfl
            first | with_reducible assumption | omega | exact trivial | with_reducible rfl
          · show zB 1 (gNB (M 1 0) (M 1 1) (M 12) a b)  -- p2.pb
            exact zB.t ⟨16 * v2 + v14, by omega, by omega, by rw [show (16 * v2 + v14) % 16 = v14 by omega, show (16 * v2 + v14) / 16 = v2 by omega]; exact pc2_pb.ne.1 b4⟩

abbrev pr_X2_seeBeside (x : Int) (y : Int) (f : Int) (M : zM) : Prop := (bDim M) ∧ (0 ≤ x ∧ x ≤ 20) ∧ (0 ≤ y ∧ y ≤ 20) ∧ (∀ k, gD (M 1 0) (M 1 1) k → M 12 k < 192)
abbrev po_X2_seeBeside (x : Int) (y : Int) (f : Int) (M : zM) (r : Int) (M' : zM) : Prop := (∀ c i, c ≠ 14 → M' c i = M c i) ∧ (r = zc (fun o => M' 14 o ≠ 0) 192 - zc (fun o => M 14 o ≠ 0) 192) ∧ (∀ o, 0 ≤ o → o < 192 → (M' 14 o ≠ 0 ↔ M 14 o ≠ 0 ∨ (o ≠ f ∧ gNear (M 1 0) (M 1 1) (M 12) x y o)))
set_option maxHeartbeats 1000000 in
theorem ok_X2_seeBeside : zSnd zS 145 0 0 yX2_seeBeside cX2_seeBeside 7 (some .int) 1 [2, 0, 0, 0] (F_X2_seeBeside pr_X2_seeBeside po_X2_seeBeside) := by
  refine (sn_X2_seeBeside ok_X2_faceAt).mono ?_
  rintro xs P M hz hR ⟨x, y, f, rfl, ⟨hd, hx, hy, hL⟩, hP⟩
  refine ⟨_, _, _, rfl, ?_⟩
  have z_x := zall_h (zall_t hz) (by decide)
  have z_y := zall_h (zall_t (zall_t hz)) (by decide)
  have z_f := zall_h (zall_t (zall_t (zall_t hz))) (by decide)
  change vc_X2_seeBeside pr_X2_faceAt po_X2_faceAt x y f P M
  unfold vc_X2_seeBeside
  refine ⟨fun v1 v2 M5 n7 => (n7 : Int) = (4 - v2) ∧ (0 ≤ v2 ∧ v2 ≤ 4) ∧ (∀ c i, c ≠ 14 → M5 c i = M c i) ∧ (v1 = zc (fun o => M5 14 o ≠ 0) 192 - zc (fun o => M 14 o ≠ 0) 192) ∧ (∀ o, 0 ≤ o → o < 192 → (M5 14 o ≠ 0 ↔ M 14 o ≠ 0 ∨ (o ≠ f ∧ ∃ d, 0 ≤ d ∧ d < v2 ∧ zg (M 1 0) (M 1 1) (M 12) (x + zdx d) (y + zdy d) = o))), ⟨Int.toNat (4 - 0), by omega, ?_, ?_, ?_, ?_⟩, ?_⟩
  · show 0 ≤ 0 ∧ 0 ≤ 4  -- I6.0.hv
    first | with_reducible assumption | omega | exact trivial | with_reducible rfl
  · show ∀ c i, c ≠ 14 → M c i = M c i  -- I6.0.hf
    first | with_reducible assumption | omega | exact trivial | with_reducible rfl
  · show 0 = zc (fun o => M 14 o ≠ 0) 192 - zc (fun o => M 14 o ≠ 0) 192  -- I6.0.hr
    first | with_reducible assumption | omega | exact trivial | with_reducible rfl
  · show ∀ o, 0 ≤ o → o < 192 → (M 14 o ≠ 0 ↔ M 14 o ≠ 0 ∨ (o ≠ f ∧ ∃ d, 0 ≤ d ∧ d < 0 ∧ zg (M 1 0) (M 1 1) (M 12) (x + zdx d) (y + zdy d) = o))  -- I6.0.hs
    intro o _ _
    constructor
    · exact .inl
    · rintro (h | ⟨_, d, d0, d1, _⟩)
      · exact h
      · omega
  rintro v1 v2 M5 n7 ⟨h_n7, hv, hf, hr, hs⟩ z_v1 z_v2 z_M5
  have w0 := hf 1 0 (by decide)
  have w1 := hf 1 1 (by decide)
  have w12 : M5 12 = M 12 := funext fun i => hf 12 i (by decide)
  have u1 := zc_b (fun o => M5 14 o ≠ 0) 192 (by decide)
  have u2 := zc_b (fun o => M 14 o ≠ 0) 192 (by decide)
  refine ⟨fun b1 => ?_, fun b1 => ?_⟩
  · -- b1.1
    refine hP _ _ ⟨?_, ?_, ?_⟩
    · show ∀ c i, c ≠ 14 → M5 c i = M c i  -- p1.hf
      first | with_reducible assumption | omega | exact trivial | with_reducible rfl
    · show v1 = zc (fun o => M5 14 o ≠ 0) 192 - zc (fun o => M 14 o ≠ 0) 192  -- p1.hr
      first | with_reducible assumption | omega | exact trivial | with_reducible rfl
    · show ∀ o, 0 ≤ o → o < 192 → (M5 14 o ≠ 0 ↔ M 14 o ≠ 0 ∨ (o ≠ f ∧ gNear (M 1 0) (M 1 1) (M 12) x y o))  -- p1.hs
      intro o o0 o1
      rw [hs o o0 o1, gNear4, show v2 = 4 by omega]
  · -- b1.2
    have zz := zac_b hv.1 (show v2 < 8 by omega)
    have z4 := zdx4 hv.1 (show v2 < 4 by omega)
    have o1 : ((0 : Int) ≤ v2 ∧ v2 < 8) := by
      first | with_reducible assumption | omega | exact trivial | with_reducible rfl  -- o1
    refine ⟨o1, ?_⟩
    have o2 : zin (y + (zdn (Int.toNat v2))) := by
      first | with_reducible assumption | omega | exact trivial | with_reducible rfl  -- o2
    refine ⟨o2, ?_⟩
    have o3 : zin (x + (zac (Int.toNat v2))) := by
      first | with_reducible assumption | omega | exact trivial | with_reducible rfl  -- o3
    refine ⟨o3, ?_⟩
    have gc1 : pr_X2_faceAt (x + (zac (Int.toNat v2))) (y + (zdn (Int.toNat v2))) M5 := by
      show bDim M5
      unfold bDim; omega
    refine ⟨gc1, ?_⟩
    rintro r18 M19 ⟨q_rfl, e_r18⟩ z_r18 z_M19
    have q_rfl := q_rfl.symm
    subst q_rfl
    have e2 : r18 = zg (M 1 0) (M 1 1) (M 12) (x + zdx v2) (y + zdy v2) := by rw [← z4.1, ← z4.2, e_r18, w0, w1, w12]; rfl
    have ex : ∀ o : Int, (∃ d, 0 ≤ d ∧ d < v2 + 1 ∧ zg (M 1 0) (M 1 1) (M 12) (x + zdx d) (y + zdy d) = o) ↔ (∃ d, 0 ≤ d ∧ d < v2 ∧ zg (M 1 0) (M 1 1) (M 12) (x + zdx d) (y + zdy d) = o) ∨ r18 = o := by
      intro o
      constructor
      · rintro ⟨d, d0, d1, e⟩
        by_cases c : d = v2
        · subst c; exact .inr (e2.trans e)
        · exact .inl ⟨d, d0, by omega, e⟩
      · rintro (⟨d, d0, d1, e⟩ | e)
        · exact ⟨d, d0, by omega, e⟩
        · exact ⟨v2, hv.1, by omega, by rw [← e2]; exact e⟩
    refine ⟨fun b2 => ?_, fun b2 => ?_⟩
    · -- b2.1
      have o4 : zin (v2 + 1) := by
        first | with_reducible assumption | omega | exact trivial | with_reducible rfl  -- o4
      refine ⟨o4, ?_⟩
      refine ⟨Int.toNat (4 - (v2 + 1)), by omega, by omega, ?_, ?_, ?_, ?_⟩
      · show 0 ≤ (v2 + 1) ∧ (v2 + 1) ≤ 4  -- I6.1.hv
        first | with_reducible assumption | omega | exact trivial | with_reducible rfl
      · show ∀ c i, c ≠ 14 → M5 c i = M c i  -- I6.1.hf
        first | with_reducible assumption | omega | exact trivial | with_reducible rfl
      · show v1 = zc (fun o => M5 14 o ≠ 0) 192 - zc (fun o => M 14 o ≠ 0) 192  -- I6.1.hr
        first | with_reducible assumption | omega | exact trivial | with_reducible rfl
      · show ∀ o, 0 ≤ o → o < 192 → (M5 14 o ≠ 0 ↔ M 14 o ≠ 0 ∨ (o ≠ f ∧ ∃ d, 0 ≤ d ∧ d < (v2 + 1) ∧ zg (M 1 0) (M 1 1) (M 12) (x + zdx d) (y + zdy d) = o))  -- I6.1.hs
        intro o o0 o1
        rw [hs o o0 o1, ex]
        constructor
        · rintro (h | ⟨h1, h2⟩)
          · exact .inl h
          · exact .inr ⟨h1, .inl h2⟩
        · rintro (h | ⟨h1, h2 | h2⟩)
          · exact .inl h
          · exact .inr ⟨h1, h2⟩
          · omega
    · -- b2.2
      refine ⟨fun b3 => ?_, fun b3 => ?_⟩
      · -- b3.1
        have o5 : zin (v2 + 1) := by
          first | with_reducible assumption | omega | exact trivial | with_reducible rfl  -- o5
        refine ⟨o5, ?_⟩
        refine ⟨Int.toNat (4 - (v2 + 1)), by omega, by omega, ?_, ?_, ?_, ?_⟩
        · show 0 ≤ (v2 + 1) ∧ (v2 + 1) ≤ 4  -- I6.2.hv
          first | with_reducible assumption | omega | exact trivial | with_reducible rfl
        · show ∀ c i, c ≠ 14 → M5 c i = M c i  -- I6.2.hf
          first | with_reducible assumption | omega | exact trivial | with_reducible rfl
        · show v1 = zc (fun o => M5 14 o ≠ 0) 192 - zc (fun o => M 14 o ≠ 0) 192  -- I6.2.hr
          first | with_reducible assumption | omega | exact trivial | with_reducible rfl
        · show ∀ o, 0 ≤ o → o < 192 → (M5 14 o ≠ 0 ↔ M 14 o ≠ 0 ∨ (o ≠ f ∧ ∃ d, 0 ≤ d ∧ d < (v2 + 1) ∧ zg (M 1 0) (M 1 1) (M 12) (x + zdx d) (y + zdy d) = o))  -- I6.2.hs
          intro o o0 o1
          rw [hs o o0 o1, ex]
          constructor
          · rintro (h | ⟨h1, h2⟩)
            · exact .inl h
            · exact .inr ⟨h1, .inl h2⟩
          · rintro (h | ⟨h1, h2 | h2⟩)
            · exact .inl h
            · exact .inr ⟨h1, h2⟩
            · omega
      · -- b3.2
        have rr : 0 ≤ r18 ∧ r18 < 192 := by
          have q := zg_ge (v := r18) e2.symm (by omega)
          have := hL (16 * (y + zdy v2) + (x + zdx v2)) (by omega)
          omega
        have o6 : ((0 : Int) ≤ r18 ∧ r18 < 192) := by
          first | with_reducible assumption | omega | exact trivial | with_reducible rfl  -- o6
        refine ⟨o6, ?_⟩
        refine ⟨fun b4 => ?_, fun b4 => ?_⟩
        · -- b4.1
          have o7 : zin (v2 + 1) := by
            first | with_reducible assumption | omega | exact trivial | with_reducible rfl  -- o7
          refine ⟨o7, ?_⟩
          refine ⟨Int.toNat (4 - (v2 + 1)), by omega, by omega, ?_, ?_, ?_, ?_⟩
          · show 0 ≤ (v2 + 1) ∧ (v2 + 1) ≤ 4  -- I6.3.hv
            first | with_reducible assumption | omega | exact trivial | with_reducible rfl
          · show ∀ c i, c ≠ 14 → M5 c i = M c i  -- I6.3.hf
            first | with_reducible assumption | omega | exact trivial | with_reducible rfl
          · show v1 = zc (fun o => M5 14 o ≠ 0) 192 - zc (fun o => M 14 o ≠ 0) 192  -- I6.3.hr
            first | with_reducible assumption | omega | exact trivial | with_reducible rfl
          · show ∀ o, 0 ≤ o → o < 192 → (M5 14 o ≠ 0 ↔ M 14 o ≠ 0 ∨ (o ≠ f ∧ ∃ d, 0 ≤ d ∧ d < (v2 + 1) ∧ zg (M 1 0) (M 1 1) (M 12) (x + zdx d) (y + zdy d) = o))  -- I6.3.hs
            intro o o0 o1
            have q := hs o o0 o1
            rw [ex]
            constructor
            · intro h
              rcases q.1 h with h | ⟨h1, h2⟩
              · exact .inl h
              · exact .inr ⟨h1, .inl h2⟩
            · rintro (h | ⟨h1, h2 | h2⟩)
              · exact q.2 (.inl h)
              · exact q.2 (.inr ⟨h1, h2⟩)
              · rw [← h2]; exact b4
        · -- b4.2
          intro M40 e_M40
          have e14 : ∀ o, M40 14 o = if o = r18 then 1 else M5 14 o := fun o => by
            rw [e_M40]
            unfold zset
            simp
          have o8 : zin (v1 + 1) := by
            first | with_reducible assumption | omega | exact trivial | with_reducible rfl  -- o8
          refine ⟨o8, ?_⟩
          have o9 : zin (v2 + 1) := by
            first | with_reducible assumption | omega | exact trivial | with_reducible rfl  -- o9
          refine ⟨o9, ?_⟩
          refine ⟨Int.toNat (4 - (v2 + 1)), by omega, by omega, ?_, ?_, ?_, ?_⟩
          · show 0 ≤ (v2 + 1) ∧ (v2 + 1) ≤ 4  -- I6.4.hv
            first | with_reducible assumption | omega | exact trivial | with_reducible rfl
          · show ∀ c i, c ≠ 14 → M40 c i = M c i  -- I6.4.hf
            intro c i h; rw [e_M40, zset_n _ (.inl h)]; exact hf c i h
          · show (v1 + 1) = zc (fun o => M40 14 o ≠ 0) 192 - zc (fun o => M 14 o ≠ 0) 192  -- I6.4.hr
            rw [zc_1 (p := fun o => M5 14 o ≠ 0) (q := fun o => M40 14 o ≠ 0) (y := r18) rr.1 (by omega) (by rw [e14, if_pos rfl]; decide) (fun i hi => by rw [e14, if_neg hi]) 192 (by decide) rr.2]
            omega
          · show ∀ o, 0 ≤ o → o < 192 → (M40 14 o ≠ 0 ↔ M 14 o ≠ 0 ∨ (o ≠ f ∧ ∃ d, 0 ≤ d ∧ d < (v2 + 1) ∧ zg (M 1 0) (M 1 1) (M 12) (x + zdx d) (y + zdy d) = o))  -- I6.4.hs
            intro o o0 o1
            have q := hs o o0 o1
            rw [ex, e14]
            split
            · rename_i c
              constructor
              · intro _; exact .inr ⟨by omega, .inr c.symm⟩
              · intro _; decide
            · rename_i c
              rw [q]
              constructor
              · rintro (h | ⟨h1, h2⟩)
                · exact .inl h
                · exact .inr ⟨h1, .inl h2⟩
              · rintro (h | ⟨h1, h2 | h2⟩)
                · exact .inl h
                · exact .inr ⟨h1, h2⟩
                · exact absurd h2.symm c

abbrev pr_X2_countBeside (f : Int) (M : zM) : Prop := (bDim M) ∧ (bFok M) ∧ (0 ≤ f ∧ f < M 5 2)
abbrev po_X2_countBeside (f : Int) (M : zM) (r : Int) (M' : zM) : Prop := (∀ c i, c ≠ 14 → M' c i = M c i) ∧ (r = zc (fun o => o ≠ f ∧ gNB (M 1 0) (M 1 1) (M 12) f o) (M 5 2))
set_option maxHeartbeats 1000000 in
theorem ok_X2_countBeside : zSnd zS 145 0 0 yX2_countBeside cX2_countBeside 5 (some .int) 2 [2, 0] (F_X2_countBeside pr_X2_countBeside po_X2_countBeside) := by
  refine (sn_X2_countBeside ok_J7_fill_53178 ok_X2_faceAt ok_X2_seeBeside).mono ?_
  rintro xs P M hz hR ⟨f, rfl, ⟨hd, hF, ha⟩, hP⟩
  refine ⟨_, rfl, ?_⟩
  have z_f := zall_h (zall_t hz) (by decide)
  change vc_X2_countBeside pr_J7_fill_53178 po_J7_fill_53178 pr_X2_faceAt po_X2_faceAt pr_X2_seeBeside po_X2_seeBeside f P M
  unfold vc_X2_countBeside
  have hN := hF.N hd
  have hB := (hF.2.2 f ha.1 ha.2).box (by omega) (by omega)
  obtain ⟨hb, hb2⟩ := hB
  have gc1 : pr_J7_fill_53178 14 0 M := by
    refine ⟨?_, ?_⟩
    · show zia 14  -- c1.ha
      exact (zia_k (c := 14) (by decide +kernel))
    · show zin 0  -- c1.hv
      decide
  refine ⟨gc1, ?_⟩
  rintro M1 ⟨pc1_hi, pc1_hf⟩ z_M1
  have e14 : zlni 14 = 192 := rfl
  rw [e14] at pc1_hi pc1_hf
  have q8 := pc1_hf 8 f (.inl (by decide))
  have q9 := pc1_hf 9 f (.inl (by decide))
  have q10 := pc1_hf 10 f (.inl (by decide))
  have q11 := pc1_hf 11 f (.inl (by decide))
  have nn : ∀ x y a b : Int, x = a → y = b → gNear (M 1 0) (M 1 1) (M 12) x y = gNear (M 1 0) (M 1 1) (M 12) a b := fun x y a b e1 e2 => by rw [e1, e2]
  have o1 : ((0 : Int) ≤ f ∧ f < 192) := by
    first | with_reducible assumption | omega | exact trivial | with_reducible rfl  -- o1
  refine ⟨o1, ?_⟩
  refine ⟨fun v7 v8 M11 n13 => (n13 : Int) = (20 - v8) ∧ (0 ≤ v8 ∧ v8 ≤ M 11 f + 1) ∧ (∀ c i, c ≠ 14 → M11 c i = M c i) ∧ (v7 = zc (fun o => M11 14 o ≠ 0) 192) ∧ (∀ o, 0 ≤ o → o < 192 → (M11 14 o ≠ 0 ↔ o ≠ f ∧ ∃ k, gD (M 1 0) (M 1 1) k ∧ k < 16 * v8 ∧ M 12 k = f ∧ gNear (M 1 0) (M 1 1) (M 12) (k % 16) (k / 16) o)), ⟨Int.toNat (20 - (M1 9 f)), by omega, ?_, ?_, ?_, ?_⟩, ?_⟩
  · show 0 ≤ (M1 9 f) ∧ (M1 9 f) ≤ M 11 f + 1  -- I17.0.hv
    first | with_reducible assumption | omega | exact trivial | with_reducible rfl
  · show ∀ c i, c ≠ 14 → M1 c i = M c i  -- I17.0.hf
    intro c i h; exact pc1_hf c i (.inl h)
  · show 0 = zc (fun o => M1 14 o ≠ 0) 192  -- I17.0.hr
    rw [zc_0 (by decide)]
    intro i i0 i1 h; exact h (pc1_hi i i0 i1)
  · show ∀ o, 0 ≤ o → o < 192 → (M1 14 o ≠ 0 ↔ o ≠ f ∧ ∃ k, gD (M 1 0) (M 1 1) k ∧ k < 16 * (M1 9 f) ∧ M 12 k = f ∧ gNear (M 1 0) (M 1 1) (M 12) (k % 16) (k / 16) o)  -- I17.0.hs
    intro o o0 o1
    rw [pc1_hi o o0 o1]
    constructor
    · intro h; exact absurd rfl h
    · rintro ⟨_, k, dk, l, e, _⟩
      have := hb k dk e
      omega
  rintro v7 v8 M11 n13 ⟨h_n13, hv, hf, hr, hs⟩ z_v7 z_v8 z_M11
  have w8 := hf 8 f (by decide)
  have w10 := hf 10 f (by decide)
  have w11 := hf 11 f (by decide)
  have u1 := zc_b (fun o => M11 14 o ≠ 0) 192 (by decide)
  refine ⟨fun b1 => ?_, fun b1 => ?_⟩
  · -- b1.1
    refine hP _ _ ⟨?_, ?_⟩
    · show ∀ c i, c ≠ 14 → M11 c i = M c i  -- p1.hf
      first | with_reducible assumption | omega | exact trivial | with_reducible rfl
    · show v7 = zc (fun o => o ≠ f ∧ gNB (M 1 0) (M 1 1) (M 12) f o) (M 5 2)  -- p1.hr
      rw [hr, ← zc_skip (a := M 5 2) hN.1 192 hN.2]
      · refine zc_c 192 (by decide) (fun o o0 o1 => ?_)
        rw [hs o o0 o1]
        constructor
        · rintro ⟨h, k, dk, _, e, n⟩; exact ⟨h, k, dk, e, n⟩
        · rintro ⟨h, k, dk, e, n⟩
          have := hb k dk e
          exact ⟨h, k, dk, by omega, e, n⟩
      · rintro o o0 o1 ⟨_, k, dk, e, dx, dy, _, g⟩
        have q := zg_ge g (by omega)
        have := hF.1.rng (16 * (k / 16 + dy) + (k % 16 + dx)) (by omega)
        omega
  · -- b1.2
    refine ⟨fun v21 v22 M25 n27 => (n27 : Int) = (20 - v22) ∧ (0 ≤ v22 ∧ v22 ≤ M 10 f + 1) ∧ (∀ c i, c ≠ 14 → M25 c i = M c i) ∧ (v21 = zc (fun o => M25 14 o ≠ 0) 192) ∧ (∀ o, 0 ≤ o → o < 192 → (M25 14 o ≠ 0 ↔ o ≠ f ∧ ∃ k, gD (M 1 0) (M 1 1) k ∧ k < 16 * v8 + v22 ∧ M 12 k = f ∧ gNear (M 1 0) (M 1 1) (M 12) (k % 16) (k / 16) o)), ⟨Int.toNat (20 - (M11 8 f)), by omega, ?_, ?_, ?_, ?_⟩, ?_⟩
    · show 0 ≤ (M11 8 f) ∧ (M11 8 f) ≤ M 10 f + 1  -- I35.0.hv2
      first | with_reducible assumption | omega | exact trivial | with_reducible rfl
    · show ∀ c i, c ≠ 14 → M11 c i = M c i  -- I35.0.hf2
      first | with_reducible assumption | omega | exact trivial | with_reducible rfl
    · show v7 = zc (fun o => M11 14 o ≠ 0) 192  -- I35.0.hr2
      first | with_reducible assumption | omega | exact trivial | with_reducible rfl
    · show ∀ o, 0 ≤ o → o < 192 → (M11 14 o ≠ 0 ↔ o ≠ f ∧ ∃ k, gD (M 1 0) (M 1 1) k ∧ k < 16 * v8 + (M11 8 f) ∧ M 12 k = f ∧ gNear (M 1 0) (M 1 1) (M 12) (k % 16) (k / 16) o)  -- I35.0.hs2
      intro o o0 o1
      rw [hs o o0 o1]
      constructor
      · rintro ⟨h, k, dk, l, e, n⟩; exact ⟨h, k, dk, by omega, e, n⟩
      · rintro ⟨h, k, dk, l, e, n⟩
        have := hb k dk e
        exact ⟨h, k, dk, by omega, e, n⟩
    rintro v21 v22 M25 n27 ⟨h_n27, hv2, hf2, hr2, hs2⟩ z_v21 z_v22 z_M25
    have y8 := hf2 8 f (by decide)
    have y10 := hf2 10 f (by decide)
    have y0 := hf2 1 0 (by decide)
    have y1 := hf2 1 1 (by decide)
    have y12 : M25 12 = M 12 := funext fun i => hf2 12 i (by decide)
    have u2 := zc_b (fun o => M25 14 o ≠ 0) 192 (by decide)
    refine ⟨fun b2 => ?_, fun b2 => ?_⟩
    · -- b2.1
      have o2 : zin (v8 + 1) := by
        first | with_reducible assumption | omega | exact trivial | with_reducible rfl  -- o2
      refine ⟨o2, ?_⟩
      refine ⟨Int.toNat (20 - (v8 + 1)), by omega, by omega, ?_, ?_, ?_, ?_⟩
      · show 0 ≤ (v8 + 1) ∧ (v8 + 1) ≤ M 11 f + 1  -- I17.1.hv
        first | with_reducible assumption | omega | exact trivial | with_reducible rfl
      · show ∀ c i, c ≠ 14 → M25 c i = M c i  -- I17.1.hf
        first | with_reducible assumption | omega | exact trivial | with_reducible rfl
      · show v21 = zc (fun o => M25 14 o ≠ 0) 192  -- I17.1.hr
        first | with_reducible assumption | omega | exact trivial | with_reducible rfl
      · show ∀ o, 0 ≤ o → o < 192 → (M25 14 o ≠ 0 ↔ o ≠ f ∧ ∃ k, gD (M 1 0) (M 1 1) k ∧ k < 16 * (v8 + 1) ∧ M 12 k = f ∧ gNear (M 1 0) (M 1 1) (M 12) (k % 16) (k / 16) o)  -- I17.1.hs
        intro o o0 o1
        rw [hs2 o o0 o1]
        constructor
        · rintro ⟨h, k, dk, l, e, n⟩; exact ⟨h, k, dk, by omega, e, n⟩
        · rintro ⟨h, k, dk, l, e, n⟩
          have := hb k dk e
          exact ⟨h, k, dk, by omega, e, n⟩
    · -- b2.2
      have gc2 : pr_X2_faceAt v22 v8 M25 := by
        show bDim M25
        unfold bDim; omega
      refine ⟨gc2, ?_⟩
      rintro r39 M40 ⟨q_rfl, e_r39⟩ z_r39 z_M40
      have q_rfl := q_rfl.symm
      subst q_rfl
      have e3 : r39 = M 12 (16 * v8 + v22) := e_r39.trans ((zg_i (L := M25 12) (by omega)).trans (by rw [y12]))
      refine ⟨fun b3 => ?_, fun b3 => ?_⟩
      · -- b3.1
        have o3 : zin (v22 + 1) := by
          first | with_reducible assumption | omega | exact trivial | with_reducible rfl  -- o3
        refine ⟨o3, ?_⟩
        refine ⟨Int.toNat (20 - (v22 + 1)), by omega, by omega, ?_, ?_, ?_, ?_⟩
        · show 0 ≤ (v22 + 1) ∧ (v22 + 1) ≤ M 10 f + 1  -- I35.1.hv2
          first | with_reducible assumption | omega | exact trivial | with_reducible rfl
        · show ∀ c i, c ≠ 14 → M25 c i = M c i  -- I35.1.hf2
          first | with_reducible assumption | omega | exact trivial | with_reducible rfl
        · show v21 = zc (fun o => M25 14 o ≠ 0) 192  -- I35.1.hr2
          first | with_reducible assumption | omega | exact trivial | with_reducible rfl
        · show ∀ o, 0 ≤ o → o < 192 → (M25 14 o ≠ 0 ↔ o ≠ f ∧ ∃ k, gD (M 1 0) (M 1 1) k ∧ k < 16 * v8 + (v22 + 1) ∧ M 12 k = f ∧ gNear (M 1 0) (M 1 1) (M 12) (k % 16) (k / 16) o)  -- I35.1.hs2
          intro o o0 o1
          rw [hs2 o o0 o1]
          constructor
          · rintro ⟨h, k, dk, l, e, n⟩; exact ⟨h, k, dk, by omega, e, n⟩
          · rintro ⟨h, k, dk, l, e, n⟩
            by_cases c : k = 16 * v8 + v22
            · subst c; exact absurd (e3.trans e) b3
            · exact ⟨h, k, dk, by omega, e, n⟩
      · -- b3.2
        have gc3 : pr_X2_seeBeside v22 v8 f M25 := by
          refine ⟨?_, ?_, ?_, ?_⟩
          · show bDim M25  -- c3.hd
            unfold bDim; omega
          · show 0 ≤ v22 ∧ v22 ≤ 20  -- c3.hx
            first | with_reducible assumption | omega | exact trivial | with_reducible rfl
          · show 0 ≤ v8 ∧ v8 ≤ 20  -- c3.hy
            first | with_reducible assumption | omega | exact trivial | with_reducible rfl
          · show ∀ k, gD (M25 1 0) (M25 1 1) k → M25 12 k < 192  -- c3.hL
            rw [y0, y1, y12]; intro k dk; have := hF.1.rng k dk; omega
        refine ⟨gc3, ?_⟩
        rintro r50 M51 ⟨pc3_hf, pc3_hr, pc3_hs⟩ z_r50 z_M51
        rw [y0, y1, y12] at pc3_hs
        have u3 := zc_b (fun o => M51 14 o ≠ 0) 192 (by decide)
        have o4 : zin (v21 + r50) := by
          first | with_reducible assumption | omega | exact trivial | with_reducible rfl  -- o4
        refine ⟨o4, ?_⟩
        have o5 : zin (v22 + 1) := by
          first | with_reducible assumption | omega | exact trivial | with_reducible rfl  -- o5
        refine ⟨o5, ?_⟩
        refine ⟨Int.toNat (20 - (v22 + 1)), by omega, by omega, ?_, ?_, ?_, ?_⟩
        · show 0 ≤ (v22 + 1) ∧ (v22 + 1) ≤ M 10 f + 1  -- I35.2.hv2
          first | with_reducible assumption | omega | exact trivial | with_reducible rfl
        · show ∀ c i, c ≠ 14 → M51 c i = M c i  -- I35.2.hf2
          intro c i h; rw [pc3_hf c i h]; exact hf2 c i h
        · show (v21 + r50) = zc (fun o => M51 14 o ≠ 0) 192  -- I35.2.hr2
          first | with_reducible assumption | omega | exact trivial | with_reducible rfl
        · show ∀ o, 0 ≤ o → o < 192 → (M51 14 o ≠ 0 ↔ o ≠ f ∧ ∃ k, gD (M 1 0) (M 1 1) k ∧ k < 16 * v8 + (v22 + 1) ∧ M 12 k = f ∧ gNear (M 1 0) (M 1 1) (M 12) (k % 16) (k / 16) o)  -- I35.2.hs2
          intro o o0 o1
          rw [pc3_hs o o0 o1, hs2 o o0 o1]
          constructor
          · rintro (⟨h, k, dk, l, e, n⟩ | ⟨h, n⟩)
            · exact ⟨h, k, dk, by omega, e, n⟩
            · refine ⟨h, 16 * v8 + v22, by omega, by omega, by omega, ?_⟩
              rw [show (16 * v8 + v22) % 16 = v22 by omega, show (16 * v8 + v22) / 16 = v8 by omega]
              exact n
          · rintro ⟨h, k, dk, l, e, n⟩
            by_cases c : k = 16 * v8 + v22
            · subst c
              rw [show (16 * v8 + v22) % 16 = v22 by omega, show (16 * v8 + v22) / 16 = v8 by omega] at n
              exact .inr ⟨h, n⟩
            · exact .inl ⟨h, k, dk, by omega, e, n⟩

