/-- the places of the picture and of its rim that aren't in face f, told 18 y and x from -1, -1 on -/
def hD (w h : Int) (L : Int → Int) (f c : Int) : Prop := 0 ≤ c ∧ c % 18 < w + 2 ∧ c / 18 < h + 2 ∧ zg w h L (c % 18 - 1) (c / 18 - 1) ≠ f
def hA (t a b : Int) : Prop := gOff (if t = 0 then 1 else 0) (b % 18 - a % 18) (b / 18 - a / 18)
theorem hA.sym {t : Int} (a b : Int) (h : hA t a b) : hA t b a := by
  have := gOff.sym h
  rw [show -(b % 18 - a % 18) = a % 18 - b % 18 by omega, show -(b / 18 - a / 18) = a / 18 - b / 18 by omega] at this
  exact this
theorem hA_s {t a b : Int} (h : (b = a + 1 ∧ a % 18 < 17) ∨ b = a + 18) : hA t a b := by
  unfold hA gOff
  rcases h with ⟨rfl, h⟩ | rfl
  · omega
  · omega
/-- the parts of what isn't in face f: Q tells them, N is how many -/
def gHo (w h t : Int) (L : Int → Int) (f : Int) (Q : Int → Int) (N : Int) : Prop := ∃ F, gLab (hD w h L f) (hA t) Q N F
theorem gHo.uq {w h t f N N' : Int} {L Q Q' : Int → Int} (H : gHo w h t L f Q N) (H' : gHo w h t L f Q' N') : N = N' ∧ ∀ c, hD w h L f c → Q c = Q' c := by
  obtain ⟨F, H⟩ := H
  obtain ⟨F', H'⟩ := H'
  have := gLab.uniq (fun a d => d.1) H H'
  exact ⟨this.2.1, this.1⟩
/-- the place of a dot among them -/
def hC (k : Int) : Int := 18 * (k / 16 + 1) + k % 16 + 1
theorem hC_D {w h f k : Int} {L : Int → Int} (d : gD w h k) (hw : w ≤ 16) (n : L k ≠ f) : hD w h L f (hC k) := by
  unfold hD hC
  refine ⟨by omega, by omega, by omega, ?_⟩
  rw [show (18 * (k / 16 + 1) + k % 16 + 1) % 18 - 1 = k % 16 by omega, show (18 * (k / 16 + 1) + k % 16 + 1) / 18 - 1 = k / 16 by omega, zg_D d hw]
  exact n
section
variable {w h t f l r u b : Int} {L : Int → Int}
theorem hD_c (hw : 1 ≤ w ∧ w ≤ 16) (hb : ∀ k, gD w h k → L k = f → l ≤ k % 16 ∧ k % 16 ≤ r ∧ u ≤ k / 16 ∧ k / 16 ≤ b) (hf : 0 ≤ f) {X Y : Int} (x0 : 0 ≤ X) (x1 : X < w + 2) (y0 : 0 ≤ Y) (y1 : Y < h + 2) (q : X ≤ l ∨ r + 2 ≤ X ∨ Y ≤ u ∨ b + 2 ≤ Y) : hD w h L f (18 * Y + X) := by
  refine ⟨by omega, by omega, by omega, ?_⟩
  rw [show (18 * Y + X) % 18 - 1 = X - 1 by omega, show (18 * Y + X) / 18 - 1 = Y - 1 by omega]
  intro e
  have g := zg_ge e hf
  have := hb (16 * (Y - 1) + (X - 1)) (by omega) g.2.2.2.2
  omega
/-- what is outside the box hangs with the rim -/
theorem gHo.out {Q : Int → Int} {N : Int} (H : gHo w h t L f Q N) (hw : 1 ≤ w ∧ w ≤ 16) (hh : 1 ≤ h) (hb : ∀ k, gD w h k → L k = f → l ≤ k % 16 ∧ k % 16 ≤ r ∧ u ≤ k / 16 ∧ k / 16 ≤ b) (hf : 0 ≤ f) (hl : 0 ≤ l) (hr : r < w) (hu : 0 ≤ u) (hb2 : b < h) {X Y : Int} (x0 : 0 ≤ X) (x1 : X < w + 2) (y0 : 0 ≤ Y) (y1 : Y < h + 2) (q : X ≤ l ∨ r + 2 ≤ X ∨ Y ≤ u ∨ b + 2 ≤ Y) : Q (18 * Y + X) = 0 := by
  obtain ⟨F, G⟩ := H
  have hc := @hD_c w h f l r u b L hw hb hf
  have d0 := hc (X := 0) (Y := 0) (by omega) (by omega) (by omega) (by omega) (by omega)
  rw [show (18 * 0 + 0 : Int) = 0 by decide] at d0
  have q0 : Q 0 = 0 := by
    have g := G.rng 0 d0
    have lo := G.low 0 d0
    apply Classical.byContradiction
    intro c
    have i := G.inc 0 (Q 0) (by omega) (by omega) g.2
    have := (G.fst 0 (by omega) (by omega)).1.1
    omega
  have row : ∀ X, 0 ≤ X → X < w + 2 → Q X = 0 := by
    apply zind
    · intro _; exact q0
    · intro v hv ih c
      have i := ih (by omega)
      have d1 := hc (X := v) (Y := 0) (by omega) (by omega) (by omega) (by omega) (by omega)
      have d2 := hc (X := v + 1) (Y := 0) (by omega) (by omega) (by omega) (by omega) (by omega)
      rw [show 18 * 0 + v = v by omega] at d1
      rw [show 18 * 0 + (v + 1) = v + 1 by omega] at d2
      rw [← G.adj v (v + 1) d1 d2 (hA_s (.inl ⟨rfl, by omega⟩))]
      exact i
  have col : ∀ X, 0 ≤ X → X < w + 2 → (X ≤ l ∨ r + 2 ≤ X) → ∀ Y, 0 ≤ Y → Y < h + 2 → Q (18 * Y + X) = 0 := by
    intro X x0 x1 k
    apply zind
    · intro _; rw [show 18 * 0 + X = X by omega]; exact row X x0 x1
    · intro v hv ih c
      have i := ih (by omega)
      have d1 := hc (X := X) (Y := v) (by omega) (by omega) (by omega) (by omega) (by omega)
      have d2 := hc (X := X) (Y := v + 1) (by omega) (by omega) (by omega) (by omega) (by omega)
      rw [← G.adj _ _ d1 d2 (hA_s (.inr (by omega)))]
      exact i
  have row2 : ∀ Y, 0 ≤ Y → Y < h + 2 → (Y ≤ u ∨ b + 2 ≤ Y) → ∀ X, 0 ≤ X → X < w + 2 → Q (18 * Y + X) = 0 := by
    intro Y y0 y1 k
    apply zind
    · intro _; exact col 0 (by omega) (by omega) (by omega) Y y0 y1
    · intro v hv ih c
      have i := ih (by omega)
      have d1 := hc (X := v) (Y := Y) (by omega) (by omega) (by omega) (by omega) (by omega)
      have d2 := hc (X := v + 1) (Y := Y) (by omega) (by omega) (by omega) (by omega) (by omega)
      rw [← G.adj _ _ d1 d2 (hA_s (.inl (by omega)))]
      exact i
  by_cases k : X ≤ l ∨ r + 2 ≤ X
  · exact col X x0 x1 k Y y0 y1
  · exact row2 Y y0 y1 (by omega) X x0 x1
/-- a hole is strictly in the box -/
theorem gHo.ins {Q : Int → Int} {N : Int} (H : gHo w h t L f Q N) (hw : 1 ≤ w ∧ w ≤ 16) (hh : 1 ≤ h) (hb : ∀ k, gD w h k → L k = f → l ≤ k % 16 ∧ k % 16 ≤ r ∧ u ≤ k / 16 ∧ k / 16 ≤ b) (hf : 0 ≤ f) (hl : 0 ≤ l) (hr : r < w) (hu : 0 ≤ u) (hb2 : b < h) {X Y : Int} (d : hD w h L f (18 * Y + X)) (x0 : 0 ≤ X) (x1 : X < w + 2) (y0 : 0 ≤ Y) (y1 : Y < h + 2) (q : 0 < Q (18 * Y + X)) : l + 1 < X ∧ X < r + 1 ∧ u + 1 < Y ∧ Y < b + 1 := by
  have out := @gHo.out w h t f l r u b L Q N H hw hh hb hf hl hr hu hb2
  have hc := @hD_c w h f l r u b L hw hb hf
  have o1 : ¬ (X ≤ l ∨ r + 2 ≤ X ∨ Y ≤ u ∨ b + 2 ≤ Y) := fun k => by
    have := out x0 x1 y0 y1 k
    omega
  obtain ⟨F, G⟩ := H
  refine ⟨?_, ?_, ?_, ?_⟩
  · apply Classical.byContradiction
    intro c
    have e := G.adj _ _ (hc (X := X - 1) (Y := Y) (by omega) (by omega) (by omega) (by omega) (by omega)) d (hA_s (.inl (by omega)))
    have := out (X := X - 1) (Y := Y) (by omega) (by omega) (by omega) (by omega) (by omega)
    omega
  · apply Classical.byContradiction
    intro c
    have e := G.adj _ _ d (hc (X := X + 1) (Y := Y) (by omega) (by omega) (by omega) (by omega) (by omega)) (hA_s (.inl (by omega)))
    have := out (X := X + 1) (Y := Y) (by omega) (by omega) (by omega) (by omega) (by omega)
    omega
  · apply Classical.byContradiction
    intro c
    have e := G.adj _ _ (hc (X := X) (Y := Y - 1) (by omega) (by omega) (by omega) (by omega) (by omega)) d (hA_s (.inr (by omega)))
    have := out (X := X) (Y := Y - 1) (by omega) (by omega) (by omega) (by omega) (by omega)
    omega
  · apply Classical.byContradiction
    intro c
    have e := G.adj _ _ d (hc (X := X) (Y := Y + 1) (by omega) (by omega) (by omega) (by omega) (by omega)) (hA_s (.inr (by omega)))
    have := out (X := X) (Y := Y + 1) (by omega) (by omega) (by omega) (by omega) (by omega)
    omega
/-- the places in the box with one more all round, told 18 y and x from its first on -/
def hB (w h : Int) (L : Int → Int) (f l r u b m : Int) : Prop := 0 ≤ m ∧ m % 18 < r - l + 3 ∧ m / 18 < b - u + 3 ∧ zg w h L (l - 1 + m % 18) (u - 1 + m / 18) ≠ f
/-- the parts in the box tell the parts of all -/
def hQ (l r u b : Int) (P : Int → Int) (c : Int) : Int := if l ≤ c % 18 ∧ c % 18 ≤ r + 2 ∧ u ≤ c / 18 ∧ c / 18 ≤ b + 2 then P (c - (18 * u + l)) else 0
theorem hB_D (hw : 1 ≤ w ∧ w ≤ 16) (hl : 0 ≤ l) (hr : r < w) (hu : 0 ≤ u) (hb2 : b < h) {c : Int} (k : l ≤ c % 18 ∧ c % 18 ≤ r + 2 ∧ u ≤ c / 18 ∧ c / 18 ≤ b + 2) : hD w h L f c ↔ hB w h L f l r u b (c - (18 * u + l)) := by
  have e1 : (c - (18 * u + l)) % 18 = c % 18 - l := by omega
  have e2 : (c - (18 * u + l)) / 18 = c / 18 - u := by omega
  unfold hD hB
  rw [e1, e2, show l - 1 + (c % 18 - l) = c % 18 - 1 by omega, show u - 1 + (c / 18 - u) = c / 18 - 1 by omega]
  constructor
  · rintro ⟨a1, a2, a3, a4⟩; exact ⟨by omega, by omega, by omega, a4⟩
  · rintro ⟨a1, a2, a3, a4⟩; exact ⟨by omega, by omega, by omega, a4⟩
theorem gHo.ext {P : Int → Int} {N : Int} {F : Int → Int} (G : gLab (hB w h L f l r u b) (hA t) P N F) (hw : 1 ≤ w ∧ w ≤ 16) (hh : 1 ≤ h ∧ h ≤ 12) (hb : ∀ k, gD w h k → L k = f → l ≤ k % 16 ∧ k % 16 ≤ r ∧ u ≤ k / 16 ∧ k / 16 ≤ b) (hf : 0 ≤ f) (hl : 0 ≤ l) (hlr : l ≤ r) (hr : r < w) (hu : 0 ≤ u) (hub : u ≤ b) (hb2 : b < h) : gHo w h t L f (hQ l r u b P) N := by
  have hc := @hD_c w h f l r u b L hw hb hf
  -- the frame of the box
  have fr : ∀ x y, 0 ≤ x → x < r - l + 3 → 0 ≤ y → y < b - u + 3 → (x = 0 ∨ x = r - l + 2 ∨ y = 0 ∨ y = b - u + 2) → hB w h L f l r u b (18 * y + x) := by
    intro x y x0 x1 y0 y1 k
    have := (@hB_D w h f l r u b L hw hl hr hu hb2 (18 * (y + u) + (x + l)) (by omega)).1 (hc (by omega) (by omega) (by omega) (by omega) (by omega))
    rw [show 18 * (y + u) + (x + l) - (18 * u + l) = 18 * y + x by omega] at this
    exact this
  have d0 : hB w h L f l r u b 0 := fr 0 0 (by omega) (by omega) (by omega) (by omega) (by omega)
  have g0 := G.rng 0 d0
  have q0 : P 0 = 0 := by
    have lo := G.low 0 d0
    apply Classical.byContradiction
    intro c
    have i := G.inc 0 (P 0) (by omega) (by omega) g0.2
    have := (G.fst 0 (by omega) (by omega)).1.1
    omega
  have f0 : F 0 = 0 := by
    have lo := G.low 0 d0
    rw [q0] at lo
    have := (G.fst 0 (by omega) (by omega)).1.1
    omega
  have top : ∀ x, 0 ≤ x → x < r - l + 3 → P x = 0 := by
    apply zind
    · intro _; exact q0
    · intro v hv ih c
      have i := ih (by omega)
      have d1 := fr v 0 (by omega) (by omega) (by omega) (by omega) (by omega)
      have d2 := fr (v + 1) 0 (by omega) (by omega) (by omega) (by omega) (by omega)
      rw [show 18 * 0 + v = v by omega] at d1
      rw [show 18 * 0 + (v + 1) = v + 1 by omega] at d2
      rw [← G.adj v (v + 1) d1 d2 (hA_s (.inl ⟨rfl, by omega⟩))]
      exact i
  have col : ∀ x, x = 0 ∨ x = r - l + 2 → ∀ y, 0 ≤ y → y < b - u + 3 → P (18 * y + x) = 0 := by
    intro x k
    apply zind
    · intro _; rw [show 18 * 0 + x = x by omega]; exact top x (by omega) (by omega)
    · intro v hv ih c
      have i := ih (by omega)
      have d1 := fr x v (by omega) (by omega) (by omega) (by omega) (by omega)
      have d2 := fr x (v + 1) (by omega) (by omega) (by omega) (by omega) (by omega)
      rw [← G.adj _ _ d1 d2 (hA_s (.inr (by omega)))]
      exact i
  have bot : ∀ x, 0 ≤ x → x < r - l + 3 → P (18 * (b - u + 2) + x) = 0 := by
    apply zind
    · intro _; exact col 0 (by omega) _ (by omega) (by omega)
    · intro v hv ih c
      have i := ih (by omega)
      have d1 := fr v (b - u + 2) (by omega) (by omega) (by omega) (by omega) (by omega)
      have d2 := fr (v + 1) (b - u + 2) (by omega) (by omega) (by omega) (by omega) (by omega)
      rw [← G.adj _ _ d1 d2 (hA_s (.inl (by omega)))]
      exact i
  have frame : ∀ x y, 0 ≤ x → x < r - l + 3 → 0 ≤ y → y < b - u + 3 → (x = 0 ∨ x = r - l + 2 ∨ y = 0 ∨ y = b - u + 2) → P (18 * y + x) = 0 := by
    intro x y x0 x1 y0 y1 k
    by_cases k1 : x = 0 ∨ x = r - l + 2
    · exact col x k1 y y0 y1
    by_cases k2 : y = 0
    · rw [k2, show 18 * 0 + x = x by omega]; exact top x x0 x1
    · rw [show y = b - u + 2 by omega]; exact bot x x0 x1
  have qin : ∀ c, (l ≤ c % 18 ∧ c % 18 ≤ r + 2 ∧ u ≤ c / 18 ∧ c / 18 ≤ b + 2) → hQ l r u b P c = P (c - (18 * u + l)) := fun c k => if_pos k
  have qout : ∀ c, ¬ (l ≤ c % 18 ∧ c % 18 ≤ r + 2 ∧ u ≤ c / 18 ∧ c / 18 ≤ b + 2) → hQ l r u b P c = 0 := fun c k => if_neg k
  -- a place in the box but beside one out of it is on the frame
  have edge : ∀ c, (l ≤ c % 18 ∧ c % 18 ≤ r + 2 ∧ u ≤ c / 18 ∧ c / 18 ≤ b + 2) → (c % 18 = l ∨ c % 18 = r + 2 ∨ c / 18 = u ∨ c / 18 = b + 2) → hQ l r u b P c = 0 := by
    intro c k k2
    rw [qin c k]
    have := frame (c % 18 - l) (c / 18 - u) (by omega) (by omega) (by omega) (by omega) (by omega)
    rw [show 18 * (c / 18 - u) + (c % 18 - l) = c - (18 * u + l) by omega] at this
    exact this
  have conv : ∀ m, hB w h L f l r u b m → (l ≤ (m + (18 * u + l)) % 18 ∧ (m + (18 * u + l)) % 18 ≤ r + 2 ∧ u ≤ (m + (18 * u + l)) / 18 ∧ (m + (18 * u + l)) / 18 ≤ b + 2) ∧ hD w h L f (m + (18 * u + l)) ∧ hQ l r u b P (m + (18 * u + l)) = P m ∧ (m + (18 * u + l)) % 18 = m % 18 + l ∧ (m + (18 * u + l)) / 18 = m / 18 + u := by
    intro m hm
    have k : l ≤ (m + (18 * u + l)) % 18 ∧ (m + (18 * u + l)) % 18 ≤ r + 2 ∧ u ≤ (m + (18 * u + l)) / 18 ∧ (m + (18 * u + l)) / 18 ≤ b + 2 := by
      have := hm.1; have := hm.2.1; have := hm.2.2.1; omega
    have e : m + (18 * u + l) - (18 * u + l) = m := by omega
    refine ⟨k, (hB_D hw hl hr hu hb2 k).2 (by rw [e]; exact hm), by rw [qin _ k, e], ?_, ?_⟩
    · have := hm.1; have := hm.2.1; have := hm.2.2.1; omega
    · have := hm.1; have := hm.2.1; have := hm.2.2.1; omega
  have z0 := hc (X := 0) (Y := 0) (by omega) (by omega) (by omega) (by omega) (by omega)
  rw [show (18 * 0 + 0 : Int) = 0 by decide] at z0
  have zq : hQ l r u b P 0 = 0 := by
    by_cases k : l ≤ (0 : Int) % 18 ∧ (0 : Int) % 18 ≤ r + 2 ∧ u ≤ (0 : Int) / 18 ∧ (0 : Int) / 18 ≤ b + 2
    · exact edge 0 k (by omega)
    · exact qout 0 k
  obtain ⟨F', F0, F1⟩ : ∃ F' : Int → Int, F' 0 = 0 ∧ ∀ k, k ≠ 0 → F' k = F k + (18 * u + l) := ⟨fun k => if k = 0 then 0 else F k + (18 * u + l), if_pos rfl, fun k hk => if_neg hk⟩
  refine ⟨F', G.nn, ?_, ?_, ?_, ?_, ?_, ?_⟩
  · intro a da
    by_cases k : l ≤ a % 18 ∧ a % 18 ≤ r + 2 ∧ u ≤ a / 18 ∧ a / 18 ≤ b + 2
    · rw [qin a k]; exact G.rng _ ((hB_D hw hl hr hu hb2 k).1 da)
    · rw [qout a k]; omega
  · intro a c da dc p
    have pa := p
    unfold hA gOff at pa
    have ha := da.1
    have hc' := dc.1
    by_cases k : l ≤ a % 18 ∧ a % 18 ≤ r + 2 ∧ u ≤ a / 18 ∧ a / 18 ≤ b + 2
    · by_cases k2 : l ≤ c % 18 ∧ c % 18 ≤ r + 2 ∧ u ≤ c / 18 ∧ c / 18 ≤ b + 2
      · rw [qin a k, qin c k2]
        refine G.adj _ _ ((hB_D hw hl hr hu hb2 k).1 da) ((hB_D hw hl hr hu hb2 k2).1 dc) ?_
        unfold hA at p ⊢
        rw [show (c - (18 * u + l)) % 18 - (a - (18 * u + l)) % 18 = c % 18 - a % 18 by omega, show (c - (18 * u + l)) / 18 - (a - (18 * u + l)) / 18 = c / 18 - a / 18 by omega]
        exact p
      · rw [qout c k2]; exact edge a k (by omega)
    · by_cases k2 : l ≤ c % 18 ∧ c % 18 ≤ r + 2 ∧ u ≤ c / 18 ∧ c / 18 ≤ b + 2
      · rw [qout a k]; exact (edge c k2 (by omega)).symm
      · rw [qout a k, qout c k2]
  · intro k k1 k2
    by_cases c : k = 0
    · subst c; rw [F0]; exact ⟨z0, zq⟩
    · rw [F1 _ c]
      have g := G.fst k k1 k2
      have := conv _ g.1
      exact ⟨this.2.1, this.2.2.1.trans g.2⟩
  · intro a da
    have ha := da.1
    by_cases k : l ≤ a % 18 ∧ a % 18 ≤ r + 2 ∧ u ≤ a / 18 ∧ a / 18 ≤ b + 2
    · rw [qin a k]
      have g := G.low _ ((hB_D hw hl hr hu hb2 k).1 da)
      by_cases c : P (a - (18 * u + l)) = 0
      · rw [c, F0]; exact ha
      · rw [F1 _ c]; omega
    · rw [qout a k, F0]; exact ha
  · intro k k1 k2 S s cl a da e
    have lift : ∀ m m', S (m + (18 * u + l)) → hB w h L f l r u b m → hB w h L f l r u b m' → hA t m m' → S (m' + (18 * u + l)) := by
      intro m m' sm dm dm' p
      have c1 := conv m dm
      have c2 := conv m' dm'
      refine cl _ _ sm c1.2.1 c2.2.1 ?_
      unfold hA at p ⊢
      rw [show (m' + (18 * u + l)) % 18 - (m + (18 * u + l)) % 18 = m' % 18 - m % 18 by omega, show (m' + (18 * u + l)) / 18 - (m + (18 * u + l)) / 18 = m' / 18 - m / 18 by omega]
      exact p
    have fin : S (F k + (18 * u + l)) → (l ≤ a % 18 ∧ a % 18 ≤ r + 2 ∧ u ≤ a / 18 ∧ a / 18 ≤ b + 2) → S a := by
      intro sF kk
      rw [qin a kk] at e
      have := G.con k k1 k2 (fun m => S (m + (18 * u + l))) sF lift _ ((hB_D hw hl hr hu hb2 kk).1 da) e
      rw [show a - (18 * u + l) + (18 * u + l) = a by omega] at this
      exact this
    by_cases c : k = 0
    · subst c
      rw [F0] at s
      have row : ∀ X, 0 ≤ X → X < w + 2 → S X := by
        apply zind
        · intro _; exact s
        · intro v hv ih c
          have d1 := hc (X := v) (Y := 0) (by omega) (by omega) (by omega) (by omega) (by omega)
          have d2 := hc (X := v + 1) (Y := 0) (by omega) (by omega) (by omega) (by omega) (by omega)
          rw [show 18 * 0 + v = v by omega] at d1
          rw [show 18 * 0 + (v + 1) = v + 1 by omega] at d2
          exact cl v (v + 1) (ih (by omega)) d1 d2 (hA_s (.inl ⟨rfl, by omega⟩))
      have scol : ∀ X, 0 ≤ X → X < w + 2 → (X ≤ l ∨ r + 2 ≤ X) → ∀ Y, 0 ≤ Y → Y < h + 2 → S (18 * Y + X) := by
        intro X x0 x1 kx
        apply zind
        · intro _; rw [show 18 * 0 + X = X by omega]; exact row X x0 x1
        · intro v hv ih c
          have d1 := hc (X := X) (Y := v) (by omega) (by omega) (by omega) (by omega) (by omega)
          have d2 := hc (X := X) (Y := v + 1) (by omega) (by omega) (by omega) (by omega) (by omega)
          exact cl _ _ (ih (by omega)) d1 d2 (hA_s (.inr (by omega)))
      have srow : ∀ Y, 0 ≤ Y → Y < h + 2 → (Y ≤ u ∨ b + 2 ≤ Y) → ∀ X, 0 ≤ X → X < w + 2 → S (18 * Y + X) := by
        intro Y y0 y1 ky
        apply zind
        · intro _; exact scol 0 (by omega) (by omega) (by omega) Y y0 y1
        · intro v hv ih c
          have d1 := hc (X := v) (Y := Y) (by omega) (by omega) (by omega) (by omega) (by omega)
          have d2 := hc (X := v + 1) (Y := Y) (by omega) (by omega) (by omega) (by omega) (by omega)
          exact cl _ _ (ih (by omega)) d1 d2 (hA_s (.inl (by omega)))
      have sa : ∀ X Y, 0 ≤ X → X < w + 2 → 0 ≤ Y → Y < h + 2 → (X ≤ l ∨ r + 2 ≤ X ∨ Y ≤ u ∨ b + 2 ≤ Y) → S (18 * Y + X) := by
        intro X Y x0 x1 y0 y1 q
        by_cases k : X ≤ l ∨ r + 2 ≤ X
        · exact scol X x0 x1 k Y y0 y1
        · exact srow Y y0 y1 (by omega) X x0 x1
      by_cases kk : l ≤ a % 18 ∧ a % 18 ≤ r + 2 ∧ u ≤ a / 18 ∧ a / 18 ≤ b + 2
      · refine fin ?_ kk
        rw [f0, show 0 + (18 * u + l) = 18 * u + l by omega]
        exact sa l u (by omega) (by omega) (by omega) (by omega) (by omega)
      · have := sa (a % 18) (a / 18) (by omega) da.2.1 (by have := da.1; omega) da.2.2.1 (by omega)
        rw [show 18 * (a / 18) + a % 18 = a by omega] at this
        exact this
    · rw [F1 _ c] at s
      by_cases kk : l ≤ a % 18 ∧ a % 18 ≤ r + 2 ∧ u ≤ a / 18 ∧ a / 18 ≤ b + 2
      · exact fin s kk
      · rw [qout a kk] at e; exact absurd e.symm c
  · intro j k j0 jk k2
    have i := G.inc j k j0 jk k2
    have g := G.fst k (by omega) k2
    have := (G.fst j j0 (by omega)).1.1
    rw [F1 k (by omega)]
    by_cases c : j = 0
    · rw [c, F0]; omega
    · rw [F1 j c]; omega
end
