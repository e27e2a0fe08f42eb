theorem zl255 : ∀ n : Fin 256, zland ((n.val : Nat) - 128) 255 = if 128 ≤ n.val then ((n.val : Nat) : Int) - 128 else ((n.val : Nat) : Int) + 128 := by decide +kernel
theorem zland255 {x : Int} (h : -128 ≤ x ∧ x ≤ 127) : zland x 255 = if 0 ≤ x then x else x + 256 := by
  have e := zl255 ⟨(x + 128).toNat, by omega⟩
  have e2 : (((x + 128).toNat : Nat) : Int) = x + 128 := by omega
  dsimp only at e
  rw [e2, show x + 128 - 128 = x by omega] at e
  rw [e]
  by_cases k : 0 ≤ x
  · rw [if_pos k, if_pos (by omega)]
  · rw [if_neg k, if_neg (by omega)]; omega
theorem gSb_of {x : Int} (h : -128 ≤ x ∧ x ≤ 127) : gSb x (zland x 255) := by
  rw [zland255 h]
  by_cases k : 0 ≤ x
  · rw [if_pos k]; exact .inl rfl
  · rw [if_neg k]; exact .inr (by omega)
theorem gLab.cgA {D : Int → Prop} {A A' : Int → Int → Prop} {L : Int → Int} {N : Int} {F : Int → Int} (e : ∀ a b, D a → D b → (A a b ↔ A' a b)) (h : gLab D A L N F) : gLab D A' L N F := by
  obtain ⟨h1, h2, h3, h4, h5, h6, h7⟩ := h
  exact ⟨h1, h2, fun a b da db k => h3 a b da db ((e a b da db).2 k), h4, h5, fun k k0 k1 S s c a da l => h6 k k0 k1 S s (fun a b sa da db q => c a b sa da db ((e a b da db).1 q)) a da l, h7⟩
section
variable {w h t : Int} {L L' F F' D D' : Int → Int} {N f : Int}
theorem zg_cg (hw : w ≤ 16) (e : ∀ i, gD w h i → L i = L' i) : zg w h L = zg w h L' := by
  funext x y
  by_cases c : 0 ≤ x ∧ x < w ∧ 0 ≤ y ∧ y < h
  · rw [zg_i c, zg_i c]; exact e _ (by omega)
  · rw [zg_o c, zg_o c]
theorem gNear_cg (e : zg w h L = zg w h L') {x y b : Int} : gNear w h L x y b ↔ gNear w h L' x y b := by
  unfold gNear; rw [e]
theorem gNB_cg (e : zg w h L = zg w h L') (eL : ∀ i, gD w h i → L i = L' i) {a b : Int} : gNB w h L a b ↔ gNB w h L' a b := by
  unfold gNB
  constructor
  · rintro ⟨k, d, l, n⟩; exact ⟨k, d, by rw [← eL k d]; exact l, (gNear_cg e).1 n⟩
  · rintro ⟨k, d, l, n⟩; exact ⟨k, d, by rw [eL k d]; exact l, (gNear_cg e).2 n⟩
theorem hD_cg (e : zg w h L = zg w h L') {a : Int} : hD w h L a = hD w h L' a := by
  funext c; unfold hD; rw [e]
theorem gHo_cg (e : zg w h L = zg w h L') {a K : Int} {Q : Int → Int} : gHo w h t L a Q K ↔ gHo w h t L' a Q K := by
  unfold gHo; rw [hD_cg e]
theorem gLies_cg (e : zg w h L = zg w h L') (eL : ∀ i, gD w h i → L i = L' i) {a b : Int} (eF : F a = F' a) : gLies w h t L F a b ↔ gLies w h t L' F' a b := by
  unfold gLies
  rw [eF]
  constructor
  · rintro ⟨Q, K, g, p, q⟩; exact ⟨Q, K, (gHo_cg e).1 g, p, fun k d l => q k d (by rw [eL k d]; exact l)⟩
  · rintro ⟨Q, K, g, p, q⟩; exact ⟨Q, K, (gHo_cg e).2 g, p, fun k d l => q k d (by rw [← eL k d]; exact l)⟩
theorem gBox_cg (eL : ∀ i, gD w h i → L i = L' i) {a l r u b : Int} : gBox (gD w h) L a l r u b ↔ gBox (gD w h) L' a l r u b :=
  ⟨fun g => g.cong (fun x d => by rw [eL x d]), fun g => g.cong (fun x d => by rw [eL x d])⟩
theorem gLk_cg (e : zg w h L = zg w h L') (eL : ∀ i, gD w h i → L i = L' i) (e2 : ∀ i, 0 ≤ i → i < 192 → L i = L' i) {a b : Int} : gLk w h L a b ↔ gLk w h L' a b := by
  have z : ∀ a, zc (fun i => L i = a) 192 = zc (fun i => L' i = a) 192 := fun a => zc_c 192 (by decide) (fun i i0 i1 => by rw [e2 i i0 i1])
  unfold gLk
  rw [z a, z b, e]
  constructor
  · rintro ⟨x, la, ra, ua, ba, lb, rb, ub, bb, A, B, g⟩; exact ⟨x, la, ra, ua, ba, lb, rb, ub, bb, (gBox_cg eL).1 A, (gBox_cg eL).1 B, g⟩
  · rintro ⟨x, la, ra, ua, ba, lb, rb, ub, bb, A, B, g⟩; exact ⟨x, la, ra, ua, ba, lb, rb, ub, bb, (gBox_cg eL).2 A, (gBox_cg eL).2 B, g⟩
theorem gLd_cg (e : zg w h L = zg w h L') (eL : ∀ i, gD w h i → L i = L' i) (e2 : ∀ i, 0 ≤ i → i < 192 → L i = L' i) {a r : Int} : gLd w h L a r ↔ gLd w h L' a r := by
  unfold gLd
  constructor
  · rintro ⟨a1, a2, a3, a4⟩; exact ⟨a1, a2, a3.imp id (gLk_cg e eL e2).1, fun g g0 g1 k => a4 g g0 g1 ((gLk_cg e eL e2).2 k)⟩
  · rintro ⟨a1, a2, a3, a4⟩; exact ⟨a1, a2, a3.imp id (gLk_cg e eL e2).2, fun g g0 g1 k => a4 g g0 g1 ((gLk_cg e eL e2).1 k)⟩
theorem gCn_cg (hh : h ≤ 12) (eD : ∀ i, gD w h i → D i = D' i) (c : Int) : gCn w h D c = gCn w h D' c := by
  unfold gCn
  exact zc_c 192 (by decide) (fun i i0 i1 => by
    constructor
    · rintro ⟨a, b⟩; exact ⟨a, by rw [← eD i a]; exact b⟩
    · rintro ⟨a, b⟩; exact ⟨a, by rw [eD i a]; exact b⟩)
theorem qFa_cg (hw : w ≤ 16) (eG : zg w h L = zg w h L') (eL : ∀ i, gD w h i → L i = L' i) (e2 : ∀ i, 0 ≤ i → i < 192 → L i = L' i) (eD : ∀ i, gD w h i → D i = D' i) (eF : ∀ k, 0 ≤ k → k < N → F k = F' k) (dF : gD w h (F f)) (hf : 0 ≤ f ∧ f < N) {k r : Int} : qFa w h t D L F N f k r ↔ qFa w h t D' L' F' N f k r := by
  have z : zc (fun i => L i = f) 192 = zc (fun i => L' i = f) 192 := zc_c 192 (by decide) (fun i i0 i1 => by rw [e2 i i0 i1])
  have z8 : zc (fun o => o ≠ f ∧ gNB w h L f o) N = zc (fun o => o ≠ f ∧ gNB w h L' f o) N := zc_c N (by omega) (fun i i0 i1 => by rw [gNB_cg eG eL])
  have z9 : zc (fun o => o ≠ f ∧ gLies w h t L F f o) N = zc (fun o => o ≠ f ∧ gLies w h t L' F' f o) N := zc_c N (by omega) (fun i i0 i1 => by rw [gLies_cg eG eL (eF f hf.1 hf.2)])
  have eb : ∀ x : Int → Int → Int → Int → Int, (∃ l rr u b, gBox (gD w h) L f l rr u b ∧ r = x l rr u b) ↔ (∃ l rr u b, gBox (gD w h) L' f l rr u b ∧ r = x l rr u b) := fun x => by
    constructor
    · rintro ⟨l, rr, u, b, g, q⟩; exact ⟨l, rr, u, b, (gBox_cg eL).1 g, q⟩
    · rintro ⟨l, rr, u, b, g, q⟩; exact ⟨l, rr, u, b, (gBox_cg eL).2 g, q⟩
  have eh : (∃ Q, gHo w h t L f Q (r + 1)) ↔ ∃ Q, gHo w h t L' f Q (r + 1) := by
    constructor
    · rintro ⟨Q, g⟩; exact ⟨Q, (gHo_cg eG).1 g⟩
    · rintro ⟨Q, g⟩; exact ⟨Q, (gHo_cg eG).2 g⟩
  unfold qFa
  rw [z, z8, z9, eG, ← eF f hf.1 hf.2, ← eD _ dF, eb (fun l rr u b => if k = 3 then l else if k = 4 then u else if k = 5 then rr - l + 1 else b - u + 1), eh]
theorem qFa.uq {k r r' : Int} (H : qFa w h t D L F N f k r) (G : qFa w h t D L F N f k r') : r = r' := by
  unfold qFa at H G
  by_cases k0 : k = 0
  · rw [if_pos k0] at H G; rw [H, G]
  rw [if_neg k0] at H G
  by_cases k1 : k = 1
  · rw [if_pos k1] at H G; rw [H, G]
  rw [if_neg k1] at H G
  by_cases k2 : k = 2
  · rw [if_pos k2] at H G; rw [H, G]
  rw [if_neg k2] at H G
  by_cases k3 : k = 3 ∨ k = 4 ∨ k = 5 ∨ k = 6
  · rw [if_pos k3] at H G
    obtain ⟨l, rr, u, b, B, e⟩ := H
    obtain ⟨l', rr', u', b', B', e'⟩ := G
    obtain ⟨e1, e2, e3, e4⟩ := B.uq B'
    subst e1 e2 e3 e4
    rw [e, e']
  rw [if_neg k3] at H G
  by_cases k7 : k = 7
  · rw [if_pos k7] at H G
    obtain ⟨Q, g⟩ := H
    obtain ⟨Q', g'⟩ := G
    have := (gHo.uq g g').1
    omega
  rw [if_neg k7] at H G
  by_cases k8 : k = 8
  · rw [if_pos k8] at H G; rw [H, G]
  rw [if_neg k8] at H G
  by_cases k9 : k = 9
  · rw [if_pos k9] at H G; rw [H, G]
  rw [if_neg k9] at H G
  by_cases k10 : k = 10
  · rw [if_pos k10] at H G; exact H.uq G
  rw [if_neg k10] at H G
  exact H.uq G
end
/-- between the two memories: what a call's answer may rest on -/
def zR (M : zM) : Prop := (M 1 0 = M 103 1 ∧ M 1 1 = M 103 2 ∧ M 1 2 = M 103 5) ∧ (∀ i, gD (M 1 0) (M 1 1) i → M 2 i = M 104 i) ∧ (∀ c, 0 ≤ c → c < 16 → M 3 c = M 105 c) ∧
  ((M 77 0 = M 103 8 ∧ M 77 0 + M 77 1 = M 103 7) ∧ ∀ k, 0 ≤ k → k < M 103 7 → ∀ i, 0 ≤ i → i < 192 → (gD (M 1 0) (M 1 1) i → M (79 + (M 77 2 + k) % 20) i = M 106 (192 * k + i)) ∧ (¬ gD (M 1 0) (M 1 1) i → M (79 + (M 77 2 + k) % 20) i = M 2 i ∧ M 106 (192 * k + i) = M 104 i)) ∧
  ((M 57 0 = M 103 9 ∧ M 57 4 ≤ M 57 0 ∧ M 57 0 ≤ 12) ∧ (∀ q, 0 ≤ q → q < 12 → M 72 q = M 109 q) ∧ ∀ q, 0 ≤ q → q < M 57 0 → M 71 q = M 108 q ∧ gSx (M (59 + q)) (fun i => M 107 (120 * q + i)) (M 71 q) ∧ gRv (M (59 + q)) (M 71 q)) ∧
  ((M 0 12 ≠ 0 ↔ M 103 13 ≠ 0) ∧ (M 0 12 ≠ 0 → (M 99 0 = M 103 14 ∧ M 99 1 = M 103 15 ∧ M 99 2 = M 103 18 ∧ M 57 4 = M 103 19) ∧ (∀ i, gD (M 99 0) (M 99 1) i → M 100 i = M 110 i) ∧ (∀ c, 0 ≤ c → c < 16 → M 101 c = M 111 c) ∧ ∀ q, 0 ≤ q → q < 12 → M 73 q = M 112 q)) ∧
  ∀ d, 0 ≤ d → d < 8 → (M (26 + 2 * d) 0 = M 134 d ∧ (M 134 d = 0 ∨ M 134 d = 1 ∨ M 134 d = 2)) ∧ (M 134 d = 2 → (M (26 + 2 * d) 1 = M 140 d ∧ M (26 + 2 * d) 2 = M 141 d) ∧ (∀ i, 0 ≤ i → i < 120 → M (26 + 2 * d + 1) i = M 142 (120 * d + i)) ∧ (M 140 d = 0 → ∀ i, 0 ≤ i → i < 120 → -128 ≤ M 142 (120 * d + i) ∧ M 142 (120 * d + i) ≤ 127)) ∧
    (M 134 d = 1 → M (26 + 2 * d) 4 = M 135 d ∧ (0 ≤ M 135 d ∧ M 135 d ≤ 4) ∧ M (26 + 2 * d) 5 = M 136 d ∧ M (26 + 2 * d) 6 = M 137 d ∧ M (26 + 2 * d) 7 = M 138 d ∧ M (26 + 2 * d) 8 = M 139 d)
def zCo (M M' : zM) : Prop := ∀ c i, ¬ bWk c i → ¬ mWk c i → c ≠ 75 → M' c i = M c i
theorem zCo.tr {A B C : zM} (h : zCo A B) (g : zCo B C) : zCo A C := fun c i k l m => (g c i k l m).trans (h c i k l m)
theorem bW.co {A B : zM} (h : bW A B) : zCo A B := fun c i k _ _ => h c i k
theorem mW.co {A B : zM} (h : mW A B) : zCo A B := fun c i _ k _ => h c i k
theorem zR.co {M M' : zM} (H : zR M) (w : zCo M M') : zR M' := by
  have f : ∀ c, (c = 2 ∨ c = 3 ∨ (26 ≤ c ∧ c ≤ 41) ∨ (58 ≤ c ∧ c ≤ 73) ∨ (78 ≤ c ∧ c ≤ 98) ∨ (100 ≤ c ∧ c ≤ 102) ∨ (104 ≤ c ∧ c ≤ 112) ∨ (134 ≤ c ∧ c ≤ 142)) → M' c = M c := fun c k => funext fun i => w c i (by omega) (by omega) (by omega)
  have g : ∀ c i, (c = 0 ∨ (c = 1 ∧ i ≤ 6) ∨ c = 57 ∨ c = 77 ∨ c = 99 ∨ (c = 103 ∧ 1 ≤ i ∧ i ≤ 20)) → M' c i = M c i := fun c i k => w c i (by omega) (by omega) (by omega)
  obtain ⟨h1, h2, h3, ⟨h4, h5⟩, ⟨h6, h7, h8⟩, ⟨h9, h10⟩, h11⟩ := H
  have a0 := g 1 0 (by omega)
  have a1 := g 1 1 (by omega)
  refine ⟨?_, ?_, ?_, ⟨?_, fun k k0 k1 i i0 i1 => ?_⟩, ⟨?_, ?_, fun q q0 q1 => ?_⟩, ⟨?_, ?_⟩, fun d d0 d1 => ?_⟩
  · rw [a0, a1, g 1 2 (by omega), g 103 1 (by omega), g 103 2 (by omega), g 103 5 (by omega)]; exact h1
  · rw [a0, a1, f 2 (by omega), f 104 (by omega)]; exact h2
  · rw [f 3 (by omega), f 105 (by omega)]; exact h3
  · rw [g 77 0 (by omega), g 77 1 (by omega), g 103 7 (by omega), g 103 8 (by omega)]; exact h4
  · rw [g 103 7 (by omega)] at k1
    rw [a0, a1, g 77 2 (by omega), f 106 (by omega), f 2 (by omega), f 104 (by omega), f (79 + (M 77 2 + k) % 20) (by omega)]; exact h5 k k0 k1 i i0 i1
  · rw [g 57 0 (by omega), g 57 4 (by omega), g 103 9 (by omega)]; exact h6
  · rw [f 72 (by omega), f 109 (by omega)]; exact h7
  · rw [g 57 0 (by omega)] at q1
    rw [f 71 (by omega), f 108 (by omega), f 107 (by omega)]
    rw [f (59 + q) (by omega)]; exact h8 q q0 q1
  · rw [g 0 12 (by omega), g 103 13 (by omega)]; exact h9
  · rw [g 0 12 (by omega), g 99 0 (by omega), g 99 1 (by omega), g 99 2 (by omega), g 57 4 (by omega), g 103 14 (by omega), g 103 15 (by omega), g 103 18 (by omega), g 103 19 (by omega), f 100 (by omega), f 110 (by omega), f 101 (by omega), f 111 (by omega), f 73 (by omega), f 112 (by omega)]; exact h10
  · rw [f 134 (by omega), f 135 (by omega), f 136 (by omega), f 137 (by omega), f 138 (by omega), f 139 (by omega), f 140 (by omega), f 141 (by omega), f 142 (by omega), f (26 + 2 * d) (by omega), f (26 + 2 * d + 1) (by omega)]; exact h11 d d0 d1
def zJn (v : Int) (M : zM) : Prop := bI M ∧ bK M ∧ bFd M ∧ mI M ∧ zR M ∧ M 1 3 ≤ v ∧ M 99 3 ≤ v
theorem bI.m {M M' : zM} (H : bI M) (w : mW M M') : bI M' := H.fr (fun c i k l => w c i (by omega))
theorem bK.m {M M' : zM} (H : bK M) (w : mW M M') : bK M' := H.fr (fun c i k => w c i (by omega))
theorem bQ.m {M M' : zM} (H : bQ M) (w : mW M M') : bQ M' := H.fr (fun c i k => w c i (by omega))
theorem bFd.m {M M' : zM} (H : bFd M) (w : mW M M') : bFd M' := fun k k0 k1 => by rw [w 75 k (by omega)]; exact H k k0 k1
theorem mI.b {M M' : zM} (H : mI M) (w : bW M M') : mI M' := H.fr (fun c i k l => w c i (by omega))
theorem zJn.q {v : Int} {M M1 M2 : zM} (J : zJn v M) (w : bW M M1) (k : bK M1) (g : mW M1 M2) : zJn (v + 1) M2 := by
  obtain ⟨j1, j2, j3, j4, j5, j6, j7⟩ := J
  refine ⟨(j1.w w).m g, k.m g, (j3.w w).m g, (j4.b w).w g, j5.co (w.co.tr g.co), ?_, ?_⟩
  · rw [g 1 3 (by omega), w 1 3 (by omega)]; omega
  · rw [g 99 3 (by omega), w 99 3 (by omega)]; omega
/-- both have found the faces of one picture -/
def zL (M : zM) : Prop := M 5 2 = M 103 30 ∧ (∀ i, 0 ≤ i → i < 192 → M 12 i = M 115 i) ∧ (∀ k, 0 ≤ k → k < M 5 2 → M 7 k = M 116 k) ∧ zg (M 1 0) (M 1 1) (M 12) = zg (M 103 1) (M 103 2) (M 115) ∧ (∀ k, 0 ≤ k → k < M 5 2 → gD (M 1 0) (M 1 1) (M 7 k))
theorem zL.of {M : zM} (hI : bI M) (hR : zR M) (hb : bFok M) (hm : mFok M) : zL M := by
  have d := hI.d
  obtain ⟨⟨r0, r1, r2⟩, rD, _⟩ := hR
  have G := hm.1
  rw [← r0, ← r1, ← r2] at G
  have G2 := gLab.cgA (A' := gA (M 1 2) (M 2)) (fun a b da db => by unfold gA; rw [rD a da, rD b db]) G
  obtain ⟨u1, u2, u3⟩ := gLab.uniq (fun a d => d.1) hb.1 G2
  refine ⟨u2, fun i i0 i1 => ?_, u3, ?_, fun k k0 k1 => (hb.1.fst k k0 k1).1⟩
  · by_cases c : gD (M 1 0) (M 1 1) i
    · exact u1 i c
    · rw [hb.2.1 i i0 i1 c, hm.2 i i0 i1 (by rw [← r0, ← r1]; exact c)]
  · rw [← r0, ← r1]; exact zg_cg (by omega) u1
