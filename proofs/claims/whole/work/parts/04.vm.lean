/-! numbers -/
abbrev zin (v : Int) : Prop := -2147483648 ≤ v ∧ v ≤ 2147483647
theorem z_tI {v : Int} (h : zin v) : (Int32.ofInt v).toInt = v := by
  exact Int32.toInt_ofInt_of_le (by have := h.1; omega) (by have := h.2; omega)
theorem z_tJ {v : Int} (h : zin v) : (Int64.ofInt v).toInt = v := by
  exact Int64.toInt_ofInt_of_le (by have := h.1; omega) (by have := h.2; omega)
theorem z_add (a b : Int) : Int32.ofInt a + Int32.ofInt b = Int32.ofInt (a + b) := (Int32.ofInt_add a b).symm
theorem z_sub (a b : Int) : Int32.ofInt a - Int32.ofInt b = Int32.ofInt (a - b) := (Int32.ofInt_sub a b).symm
theorem z_mul (a b : Int) : Int32.ofInt a * Int32.ofInt b = Int32.ofInt (a * b) := (Int32.ofInt_mul a b).symm
theorem z_neg (a : Int) : - Int32.ofInt a = Int32.ofInt (-a) := (Int32.ofInt_neg a).symm
theorem z_ladd (a b : Int) : Int64.ofInt a + Int64.ofInt b = Int64.ofInt (a + b) := (Int64.ofInt_add a b).symm
theorem z_lsub (a b : Int) : Int64.ofInt a - Int64.ofInt b = Int64.ofInt (a - b) := (Int64.ofInt_sub a b).symm
theorem z_lmul (a b : Int) : Int64.ofInt a * Int64.ofInt b = Int64.ofInt (a * b) := (Int64.ofInt_mul a b).symm
theorem z_lt {a b : Int} (ha : zin a) (hb : zin b) : Int32.ofInt a < Int32.ofInt b ↔ a < b := by
  rw [Int32.lt_iff_toInt_lt, z_tI ha, z_tI hb]
theorem z_le {a b : Int} (ha : zin a) (hb : zin b) : Int32.ofInt a ≤ Int32.ofInt b ↔ a ≤ b := by
  rw [Int32.le_iff_toInt_le, z_tI ha, z_tI hb]
theorem z_eq {a b : Int} (ha : zin a) (hb : zin b) : Int32.ofInt a = Int32.ofInt b ↔ a = b := by
  rw [← Int32.toInt_inj, z_tI ha, z_tI hb]
theorem z_i2l {a : Int} (h : zin a) : (Int32.ofInt a).toInt64 = Int64.ofInt a := by
  rw [← Int64.toInt_inj, z_tJ h, Int32.toInt_toInt64, z_tI h]
theorem z_l2i (a : Int) : (Int64.ofInt a).toInt32 = Int32.ofInt a := Int64.toInt32_ofInt
theorem z_bm {n : Nat} (a : Int) (h0 : 0 < n) (h : n ≤ 65536) : zin (Int.bmod a n) := by
  have h1 := Int.le_bmod (x := a) h0
  have h2 := Int.bmod_lt (x := a) h0
  unfold zin
  omega
theorem z_i2b (a : Int) : (Int32.ofInt a).toInt8.toInt32 = Int32.ofInt (Int.bmod a 256) := by
  rw [← Int32.toInt_inj, Int8.toInt_toInt32, Int32.toInt8_ofInt, Int8.toInt_ofInt, z_tI (z_bm a (by omega) (by omega))]
theorem z_i2s (a : Int) : (Int32.ofInt a).toInt16.toInt32 = Int32.ofInt (Int.bmod a 65536) := by
  rw [← Int32.toInt_inj, Int16.toInt_toInt32, Int32.toInt16_ofInt, Int16.toInt_ofInt, z_tI (z_bm a (by omega) (by omega))]
theorem z_rt (x : Int32) : Int32.ofInt x.toInt = x := Int32.ofInt_toInt x
theorem z_rtz (x : Int32) : zin x.toInt := ⟨Int32.le_toInt x, by have := Int32.toInt_lt x; omega⟩
theorem z_div {a b : Int} (ha : 0 ≤ a) (ha2 : zin a) (hb : 0 < b) (hb2 : zin b) : Int32.ofInt a / Int32.ofInt b = Int32.ofInt (a / b) := by
  rw [← Int32.ofInt_tdiv (show -2147483648 ≤ a from ha2.1) (show a ≤ 2147483647 from ha2.2) (show -2147483648 ≤ b from hb2.1) (show b ≤ 2147483647 from hb2.2), Int.tdiv_eq_ediv_of_nonneg ha]
theorem z_dz {a b : Int} (ha : 0 ≤ a) (ha2 : zin a) (hb : 0 < b) : zin (a / b) := ⟨by have := Int.ediv_nonneg ha (Int.le_of_lt hb); omega, by have := Int.ediv_le_self b ha; have := ha2.2; omega⟩
theorem z_rem {a b : Int} (ha : 0 ≤ a) (ha2 : zin a) (hb : 0 < b) (hb2 : zin b) : Int32.ofInt a - Int32.ofInt a / Int32.ofInt b * Int32.ofInt b = Int32.ofInt (a % b) := by
  rw [z_div ha ha2 hb hb2, z_mul, z_sub]
  congr 1
  have := Int.emod_add_mul_ediv a b
  rw [Int.mul_comm] at this
  omega
def zland (a b : Int) : Int := (Int32.ofInt a &&& Int32.ofInt b).toInt
def zlor (a b : Int) : Int := (Int32.ofInt a ||| Int32.ofInt b).toInt
def zlxor (a b : Int) : Int := (Int32.ofInt a ^^^ Int32.ofInt b).toInt
def zshl (a b : Int) : Int := (Int32.ofInt a <<< (Int32.ofInt b &&& 31)).toInt
def zshr (a b : Int) : Int := (Int32.ofInt a >>> (Int32.ofInt b &&& 31)).toInt
def zushr (a b : Int) : Int := ((Int32.ofInt a).toUInt32 >>> ((Int32.ofInt b).toUInt32 &&& Int32.toUInt32 31)).toInt32.toInt
theorem zland_z (a b : Int) : zin (zland a b) := z_rtz _
theorem zlor_z (a b : Int) : zin (zlor a b) := z_rtz _
theorem zlxor_z (a b : Int) : zin (zlxor a b) := z_rtz _
theorem zshl_z (a b : Int) : zin (zshl a b) := z_rtz _
theorem zshr_z (a b : Int) : zin (zshr a b) := z_rtz _
theorem zushr_z (a b : Int) : zin (zushr a b) := z_rtz _
theorem z_in {v : Int} {n : Nat} (h0 : 0 ≤ v) (h1 : v < n) (h2 : n < 2147483648) : vp_in (Int32.ofInt v) n := by
  rw [vp_in_iff, z_tI ⟨by omega, by omega⟩]
  omega
theorem z_cl {v : Int} (h0 : 0 ≤ v) (h1 : v < 2147483648) : (Int32.ofInt v).toNatClampNeg = v.toNat := by
  show (Int32.ofInt v).toInt.toNat = v.toNat
  rw [z_tI ⟨by omega, by omega⟩]
/-! the memory -/
abbrev zM : Type := Int → Int → Int
/-- cells, kinds, lengths, what a slot is: 0 a number, 1 a reference by the memory, d + 2 the reference to cell d -/
abbrev zSh : Type := (Nat → Nat) × (Nat → Nat) × (Nat → Nat → Nat)
def zset (M : zM) (c i v : Int) : zM := fun c' i' => if c' = c ∧ i' = i then v else M c' i'
theorem zset_s (M : zM) (c i v : Int) : zset M c i v c i = v := by simp [zset]
theorem zset_n (M : zM) {c i v c' i' : Int} (h : c' ≠ c ∨ i' ≠ i) : zset M c i v c' i' = M c' i' := by
  unfold zset
  rw [if_neg]
  omega
def zRng (M : zM) : Prop := ∀ c i, zin (M c i)
theorem zRng.set {M : zM} (h : zRng M) {v : Int} (hv : zin v) (c i : Int) : zRng (zset M c i v) := by
  intro c' i'
  unfold zset
  by_cases q : c' = c ∧ i' = i
  · rw [if_pos q]; exact hv
  · rw [if_neg q]; exact h c' i'
def zI (v : Int) : Value := .int (Int32.ofInt v)
def zJ (v : Int) : Value := .long (Int64.ofInt v)
def zRf (ad : Nat → Nat) (c : Int) : Value := .ref (ad c.toNat)
def zA (ad : Nat → Nat) (c : Int) : Value := if c < 0 then .null else .ref (ad c.toNat)
def znf (k : Nat) : Nat := [9, 12, 18, 4, 5, 6, 12, 5, 6, 3, 9, 13, 75].getD k 0
def zsl (ad : Nat → Nat) (code : Nat) (v : Int) : Value := if code = 0 then zI v else if code = 1 then zA ad v else .ref (ad (code - 2))
def zrf (ad : Nat → Nat) (code : Nat) (v : Int) : Option Nat := if code ≤ 1 then (if v < 0 then none else some (ad v.toNat)) else some (ad (code - 2))
def zent (ad : Nat → Nat) (cA : Nat → ClassId) (σ : zSh) (M : zM) (c : Nat) : va_E :=
  if σ.1 c < 13 then .inr (σ.1 c, (List.range (znf (σ.1 c))).map fun j => zsl ad (σ.2.2 c j) (M c j))
  else if σ.1 c = 15 then .inl (cA 2, σ.2.1 c, .inr (.inl fun j => Int64.ofInt (M c j)))
  else if σ.1 c < 17 then .inl (cA (σ.1 c - 13), σ.2.1 c, .inl fun j => Int32.ofInt (M c j))
  else .inl (cA (σ.1 c - 13), σ.2.1 c, .inr (.inr (.inr (.inr fun j => zrf ad (σ.2.2 c j) (M c j)))))
theorem zent_congr {ad : Nat → Nat} {cA : Nat → ClassId} {σ : zSh} {M M' : zM} {c : Nat} (h : ∀ j : Int, M c j = M' c j) : zent ad cA σ M c = zent ad cA σ M' c := by
  simp only [zent, h]
def zw (ad : Nat → Nat) (cA : Nat → ClassId) (σ : zSh) (n : Nat) (M : zM) : va_W := (List.range n).map fun c => (ad c, zent ad cA σ M c)
theorem zw_get {ad : Nat → Nat} {cA : Nat → ClassId} {σ : zSh} {n : Nat} {M : zM} {c : Nat} (h : c < n) : (zw ad cA σ n M)[c]? = some (ad c, zent ad cA σ M c) := by
  simp [zw, h]
theorem zw_same {ad : Nat → Nat} {cA : Nat → ClassId} {σ : zSh} {n : Nat} {M M' : zM} {c : Nat} (h : c < n) {x : va_E} (hx : x = zent ad cA σ M' c) (ho : ∀ c' i : Int, c' ≠ c → M' c' i = M c' i) : (zw ad cA σ n M).set c (ad c, x) = zw ad cA σ n M' := by
  subst hx
  apply List.ext_getElem?
  intro k
  by_cases hk : k < n
  · by_cases e : k = c
    · subst e
      rw [List.getElem?_set_self (by simpa [zw] using h), zw_get h]
    · rw [List.getElem?_set_ne (Ne.symm e), zw_get hk, zw_get hk]
      rw [zent_congr (M' := M')]
      intro j
      rw [ho]
      omega
  · rw [List.getElem?_eq_none (by simpa [zw] using hk), List.getElem?_eq_none (by simpa [zw] using hk)]
theorem zw_set {ad : Nat → Nat} {cA : Nat → ClassId} {σ : zSh} {n : Nat} {M : zM} {c : Nat} {i v : Int} (h : c < n) {x : va_E} (hx : x = zent ad cA σ (zset M c i v) c) : (zw ad cA σ n M).set c (ad c, x) = zw ad cA σ n (zset M c i v) :=
  zw_same h hx fun c' i' q => zset_n M (Or.inl q)
theorem zent_o {ad : Nat → Nat} {cA : Nat → ClassId} {σ : zSh} {M : zM} {c ci : Nat} (h : σ.1 c = ci) (h2 : ci < 13) : zent ad cA σ M c = .inr (ci, (List.range (znf ci)).map fun j => zsl ad (σ.2.2 c j) (M c j)) := by
  subst h; simp [zent, h2]
theorem zent_i {ad : Nat → Nat} {cA : Nat → ClassId} {σ : zSh} {M : zM} {c k : Nat} (h : σ.1 c = k) (h2 : k = 13 ∨ k = 14 ∨ k = 16) : zent ad cA σ M c = .inl (cA (k - 13), σ.2.1 c, .inl fun j => Int32.ofInt (M c j)) := by
  subst h; unfold zent; rw [if_neg (by omega), if_neg (by omega), if_pos (by omega)]
theorem zent_j {ad : Nat → Nat} {cA : Nat → ClassId} {σ : zSh} {M : zM} {c : Nat} (h : σ.1 c = 15) : zent ad cA σ M c = .inl (cA 2, σ.2.1 c, .inr (.inl fun j => Int64.ofInt (M c j))) := by
  unfold zent; rw [if_neg (by omega), if_pos h]
theorem zent_r {ad : Nat → Nat} {cA : Nat → ClassId} {σ : zSh} {M : zM} {c k : Nat} (h : σ.1 c = k) (h2 : 17 ≤ k) : zent ad cA σ M c = .inl (cA (k - 13), σ.2.1 c, .inr (.inr (.inr (.inr fun j => zrf ad (σ.2.2 c j) (M c j))))) := by
  subst h; unfold zent; rw [if_neg (by omega), if_neg (by omega), if_neg (by omega)]
/-! the words -/
def zTG : List Cond := lw_tbl.filter goodWord
theorem zTG_in {i : Nat} {w : Cond} (h : lw_tbl[i]? = some w) (hg : goodWord w = true) : w ∈ zTG := List.mem_filter.mpr ⟨List.mem_of_getElem? h, hg⟩
theorem zTG_1 {i : Nat} {w : Cond} (h : tables_1_1[i]? = some w) (hg : goodWord w = true) : w ∈ zTG := List.mem_filter.mpr ⟨List.mem_append_right _ (List.mem_append_left _ (List.mem_of_getElem? h)), hg⟩
theorem zTG_2 {i : Nat} {w : Cond} (h : tables_1_2[i]? = some w) (hg : goodWord w = true) : w ∈ zTG := List.mem_filter.mpr ⟨List.mem_append_right _ (List.mem_append_right _ (List.mem_append_left _ (List.mem_of_getElem? h))), hg⟩
theorem zTG_3 {i : Nat} {w : Cond} (h : tables_1_3[i]? = some w) (hg : goodWord w = true) : w ∈ zTG := List.mem_filter.mpr ⟨List.mem_append_right _ (List.mem_append_right _ (List.mem_append_right _ (List.mem_append_left _ (List.mem_of_getElem? h)))), hg⟩
theorem zTG_4 {i : Nat} {w : Cond} (h : tables_1_4[i]? = some w) (hg : goodWord w = true) : w ∈ zTG := List.mem_filter.mpr ⟨List.mem_append_right _ (List.mem_append_right _ (List.mem_append_right _ (List.mem_append_right _ (List.mem_append_left _ (List.mem_of_getElem? h))))), hg⟩
theorem zTG_5 {i : Nat} {w : Cond} (h : tables_1_5[i]? = some w) (hg : goodWord w = true) : w ∈ zTG := List.mem_filter.mpr ⟨List.mem_append_right _ (List.mem_append_right _ (List.mem_append_right _ (List.mem_append_right _ (List.mem_append_right _ (List.mem_append_left _ (List.mem_of_getElem? h)))))), hg⟩
theorem zTG_6 {i : Nat} {w : Cond} (h : tables_1_6[i]? = some w) (hg : goodWord w = true) : w ∈ zTG := List.mem_filter.mpr ⟨List.mem_append_right _ (List.mem_append_right _ (List.mem_append_right _ (List.mem_append_right _ (List.mem_append_right _ (List.mem_append_right _ (List.mem_append_left _ (List.mem_of_getElem? h))))))), hg⟩
theorem zTG_7 {i : Nat} {w : Cond} (h : tables_1_7[i]? = some w) (hg : goodWord w = true) : w ∈ zTG := List.mem_filter.mpr ⟨List.mem_append_right _ (List.mem_append_right _ (List.mem_append_right _ (List.mem_append_right _ (List.mem_append_right _ (List.mem_append_right _ (List.mem_append_right _ (List.mem_append_left _ (List.mem_of_getElem? h)))))))), hg⟩
theorem zTG_8 {i : Nat} {w : Cond} (h : tables_1_8[i]? = some w) (hg : goodWord w = true) : w ∈ zTG := List.mem_filter.mpr ⟨List.mem_append_right _ (List.mem_append_right _ (List.mem_append_right _ (List.mem_append_right _ (List.mem_append_right _ (List.mem_append_right _ (List.mem_append_right _ (List.mem_append_right _ (List.mem_append_left _ (List.mem_of_getElem? h))))))))), hg⟩
theorem zTG_9 {i : Nat} {w : Cond} (h : tables_1_9[i]? = some w) (hg : goodWord w = true) : w ∈ zTG := List.mem_filter.mpr ⟨List.mem_append_right _ (List.mem_append_right _ (List.mem_append_right _ (List.mem_append_right _ (List.mem_append_right _ (List.mem_append_right _ (List.mem_append_right _ (List.mem_append_right _ (List.mem_append_right _ (List.mem_of_getElem? h))))))))), hg⟩
theorem zTG_p1 {i : Nat} {q : MethodName × Nat} (h : lw_privs_1[i]? = some q) (hg : goodWord (Cond.selects q.1.cls q.1 q.1) = true) : Cond.selects q.1.cls q.1 q.1 ∈ zTG := List.mem_filter.mpr ⟨List.mem_append_left _ (List.mem_map.mpr ⟨q, List.mem_append_left _ (List.mem_of_getElem? h), rfl⟩), hg⟩
theorem zTG_p2 {i : Nat} {q : MethodName × Nat} (h : lw_privs_2[i]? = some q) (hg : goodWord (Cond.selects q.1.cls q.1 q.1) = true) : Cond.selects q.1.cls q.1 q.1 ∈ zTG := List.mem_filter.mpr ⟨List.mem_append_left _ (List.mem_map.mpr ⟨q, List.mem_append_right _ (List.mem_append_left _ (List.mem_of_getElem? h)), rfl⟩), hg⟩
theorem zTG_p3 {i : Nat} {q : MethodName × Nat} (h : lw_privs_3[i]? = some q) (hg : goodWord (Cond.selects q.1.cls q.1 q.1) = true) : Cond.selects q.1.cls q.1 q.1 ∈ zTG := List.mem_filter.mpr ⟨List.mem_append_left _ (List.mem_map.mpr ⟨q, List.mem_append_right _ (List.mem_append_right _ (List.mem_append_left _ (List.mem_of_getElem? h))), rfl⟩), hg⟩
theorem zTG_p4 {i : Nat} {q : MethodName × Nat} (h : lw_privs_4[i]? = some q) (hg : goodWord (Cond.selects q.1.cls q.1 q.1) = true) : Cond.selects q.1.cls q.1 q.1 ∈ zTG := List.mem_filter.mpr ⟨List.mem_append_left _ (List.mem_map.mpr ⟨q, List.mem_append_right _ (List.mem_append_right _ (List.mem_append_right _ (List.mem_append_left _ (List.mem_of_getElem? h)))), rfl⟩), hg⟩
theorem zTG_p5 {i : Nat} {q : MethodName × Nat} (h : lw_privs_5[i]? = some q) (hg : goodWord (Cond.selects q.1.cls q.1 q.1) = true) : Cond.selects q.1.cls q.1 q.1 ∈ zTG := List.mem_filter.mpr ⟨List.mem_append_left _ (List.mem_map.mpr ⟨q, List.mem_append_right _ (List.mem_append_right _ (List.mem_append_right _ (List.mem_append_right _ (List.mem_append_left _ (List.mem_of_getElem? h))))), rfl⟩), hg⟩
theorem zTG_p6 {i : Nat} {q : MethodName × Nat} (h : lw_privs_6[i]? = some q) (hg : goodWord (Cond.selects q.1.cls q.1 q.1) = true) : Cond.selects q.1.cls q.1 q.1 ∈ zTG := List.mem_filter.mpr ⟨List.mem_append_left _ (List.mem_map.mpr ⟨q, List.mem_append_right _ (List.mem_append_right _ (List.mem_append_right _ (List.mem_append_right _ (List.mem_append_right _ (List.mem_append_left _ (List.mem_of_getElem? h)))))), rfl⟩), hg⟩
theorem zTG_p7 {i : Nat} {q : MethodName × Nat} (h : lw_privs_7[i]? = some q) (hg : goodWord (Cond.selects q.1.cls q.1 q.1) = true) : Cond.selects q.1.cls q.1 q.1 ∈ zTG := List.mem_filter.mpr ⟨List.mem_append_left _ (List.mem_map.mpr ⟨q, List.mem_append_right _ (List.mem_append_right _ (List.mem_append_right _ (List.mem_append_right _ (List.mem_append_right _ (List.mem_append_right _ (List.mem_of_getElem? h)))))), rfl⟩), hg⟩
theorem zTG_good {w : Cond} (h : w ∈ zTG) : (w.onTables && w.keeps) = true ∨ ∃ ty, w = .arrayClass ty := good_of_word (List.mem_filter.mp h).2
theorem zTG_gi {ws : List Cond} (h : ∀ w ∈ ws, w ∈ zTG) : GoodIn zTG ws := fun w hw => ⟨h w hw, zTG_good (h w hw)⟩
/-- the links among nest mates -/
def zNL : List Cond := [.fieldLinkNest RX6 41 RX1 "version" "I" "DotLines", .methodLinkNest RX11 24 yX10_init "DotLines", .methodLinkNest RX11 69 yX8_init "DotLines", .methodLinkNest RX11 83 yX3_init "DotLines", .methodLinkNest RX0 73 yX11_isDigit "DotLines", .fieldLinkNest RX2 88 RX11 "ACROSS" "[I" "DotLines", .fieldLinkNest RX2 91 RX11 "DOWN" "[I" "DotLines", .fieldLinkNest RX1 53 RX11 "ACROSS" "[I" "DotLines", .fieldLinkNest RX1 56 RX11 "DOWN" "[I" "DotLines", .fieldLinkNest RX9 59 RX11 "ACROSS" "[I" "DotLines", .fieldLinkNest RX9 62 RX11 "DOWN" "[I" "DotLines", .methodLinkNest RX4 41 yX11_isColour "DotLines", .methodLinkNest RX7 68 yX11_isDigit "DotLines"]
def zNst1 (U : State) : Prop := ∀ w ∈ zNL, va_Nw w U
def zAOs : List FieldType := [.object "DotLines$Shelf", .array .byte, .array .int]
/-- .. and the array classes of references -/
def zNst (U : State) : Prop := zNst1 U ∧ ∀ ty ∈ zAOs, (Cond.arrayOver ty).before #[] U = true
theorem zNst1.warm {s U : State} (hW : s.WarmedH U.vm) (h : zNst1 s) : zNst1 U := by
  unfold zNst1 zNL at h ⊢
  simp only [List.forall_mem_cons] at h ⊢
  obtain ⟨h0, h1, h2, h3, h4, h5, h6, h7, h8, h9, h10, h11, h12, -⟩ := h
  exact ⟨va_Nw.warmF hW h0, va_Nw.warmM hW h1, va_Nw.warmM hW h2, va_Nw.warmM hW h3, va_Nw.warmM hW h4, va_Nw.warmF hW h5, va_Nw.warmF hW h6, va_Nw.warmF hW h7, va_Nw.warmF hW h8, va_Nw.warmF hW h9, va_Nw.warmF hW h10, va_Nw.warmM hW h11, va_Nw.warmM hW h12, fun _ q => by cases q⟩
theorem zNst1.same {s U : State} (hv : s.vm = U.vm) (h : zNst1 s) : zNst1 U := by
  unfold zNst1 zNL at h ⊢
  simp only [List.forall_mem_cons] at h ⊢
  obtain ⟨h0, h1, h2, h3, h4, h5, h6, h7, h8, h9, h10, h11, h12, -⟩ := h
  exact ⟨va_Nw.same rfl hv h0, va_Nw.same rfl hv h1, va_Nw.same rfl hv h2, va_Nw.same rfl hv h3, va_Nw.same rfl hv h4, va_Nw.same rfl hv h5, va_Nw.same rfl hv h6, va_Nw.same rfl hv h7, va_Nw.same rfl hv h8, va_Nw.same rfl hv h9, va_Nw.same rfl hv h10, va_Nw.same rfl hv h11, va_Nw.same rfl hv h12, fun _ q => by cases q⟩
theorem zAO_vm {ty : FieldType} {u U : State} (h : u.vm = U.vm) (hb : (Cond.arrayOver ty).before #[] u = true) : (Cond.arrayOver ty).before #[] U = true := by
  unfold Cond.before Cond.holds at hb ⊢
  simp only [Cond.value] at hb ⊢
  rw [h] at hb
  exact hb
theorem zNst.warm {s U : State} (hW : s.WarmedH U.vm) (h : zNst s) : zNst U := ⟨h.1.warm hW, fun ty hty => zAO_vm (u := s.setVm U.vm) rfl (by rw [Cond.arrayOver_setVmC hW.alike]; exact h.2 ty hty)⟩
theorem zNst.same {s U : State} (hv : s.vm = U.vm) (h : zNst s) : zNst U := ⟨h.1.same hv, fun ty hty => zAO_vm hv (h.2 ty hty)⟩
/-! the judgement -/
def ztys (cA : Nat → ClassId) : List (ClassId × FieldType) := [(cA 0, .byte), (cA 1, .int), (cA 2, .long), (cA 3, .boolean), (cA 4, .object "DotLines$Shelf"), (cA 5, .array .byte), (cA 6, .array .int)]
def zac (j : Nat) : Int := [1, 0, -1, 0, 1, -1, -1, 1].getD j 0
def zdn (j : Nat) : Int := [0, 1, 0, -1, 1, 1, -1, -1].getD j 0
def zStat (t1 t2 : Nat) (A : Nat → Prop) (U : State) (H : Heap) : Prop :=
  va_Z "DotLines" "ACROSS" "[I" (.ref t1) A U H ∧ va_T .int t1 8 (fun j => zI (zac j)) A U H ∧ va_Z "DotLines" "DOWN" "[I" (.ref t2) A U H ∧ va_T .int t2 8 (fun j => zI (zdn j)) A U H
theorem zStat.moved {t1 t2 : Nat} {A : Nat → Prop} {u U : State} {H : Heap} (hvm : u.vm.Alike U.vm) (h : zStat t1 t2 A u H) : zStat t1 t2 A U H := ⟨h.1.moved hvm, h.2.1.moved hvm, h.2.2.1.moved hvm, h.2.2.2.moved hvm⟩
theorem zStat.kept {t1 t2 : Nat} {A : Nat → Prop} {U : State} {H H1 : Heap} (h : zStat t1 t2 A U H) (hq : ∀ a : Nat, a < H.size → ¬ A a → H1[a]? = H[a]?) : zStat t1 t2 A U H1 := ⟨h.1.kept hq, h.2.1.kept hq, h.2.2.1.kept hq, h.2.2.2.kept hq⟩
theorem zStat.narrow {t1 t2 : Nat} {A B : Nat → Prop} {U : State} {H : Heap} (h : zStat t1 t2 A U H) (hAB : ∀ q, B q → A q) : zStat t1 t2 B U H := ⟨h.1.narrow hAB, h.2.1.narrow hAB, h.2.2.1.narrow hAB, h.2.2.2.narrow hAB⟩
abbrev zPT : Type := List Int → (Int → zM → Prop) → zM → Prop
abbrev zG : Type := Program × Launch × Env × State × MethodId × Array Value × List Frame × Method × Code × va_G × (Nat → ClassId) × (Nat → Nat) × (Nat → Prop) × Nat × Nat × (Int → zM → Prop)
abbrev zad (Γ : zG) : Nat → Nat := Γ.2.2.2.2.2.2.2.2.2.2.2.1
abbrev zt1 (Γ : zG) : Nat := Γ.2.2.2.2.2.2.2.2.2.2.2.2.2.1
abbrev zt2 (Γ : zG) : Nat := Γ.2.2.2.2.2.2.2.2.2.2.2.2.2.2.1
abbrev zP (Γ : zG) : Int → zM → Prop := Γ.2.2.2.2.2.2.2.2.2.2.2.2.2.2.2
/-- code, class, locals, what it returns, its height, shape, cells at its start, cells and slots that it makes -/
abbrev zMc : Type := ByteArray × String × Nat × Option FieldType × Nat × zSh × Nat × Nat × Nat
def zrv (ret : Option FieldType) (ad : Nat → Nat) (r : Int) : Option Value := match ret with
  | none => none
  | some .long => some (zJ r)
  | some (.object _) => some (zA ad r)
  | some _ => some (zI r)
def zRm (d mc ms : Nat) : Room := { frames := d, cells := mc, slots := ms, locals := 60 * d }
def zQc (ret : Option FieldType) (P : Int → zM → Prop) (D : va_G) (cA : Nat → ClassId) (ad : Nat → Nat) (σ : zSh) (n mc : Nat) (A : Nat → Prop) : Array Value → State → Outcome → State → Prop := fun _ st oc t =>
  (∃ (r : Int) (M : zM), zin r ∧ oc = .returned (zrv ret ad r) ∧ P r M ∧ zRng M ∧ va_P D vwCl (zw ad cA σ n M) t.heap ∧ va_D A (zw ad cA σ n M) ∧ (mc ≠ 0 → t.heap.size = st.heap.size + mc)) ∧ va_F A st t
def zC (Γ : zG) (μ : zMc) : Prop := match Γ with
  | (p, _, _, s, m, args, _, meth, c, D, cA, _, A, t1, t2, _) => (p.tables.exec = Jvm.exec ∧ c.code = μ.1 ∧ c.maxLocals = μ.2.2.1 ∧ s.vm.findClass μ.2.1 = some m.cls ∧ ∀ w ∈ zTG, w.before args s = true) ∧ meth.sig.returnType = μ.2.2.2.1 ∧ meth.locks = false ∧ va_K D vwCl (ztys cA) s ∧ (∀ q, s.heap.size ≤ q → A q) ∧ zStat t1 t2 A s s.heap ∧ zNst s
def zV (Γ : zG) (μ : zMc) (κ : Nat × Nat × Nat) (pc : Nat) (L : List (Nat × Value)) (st : List Value) (M : zM) : Prop := match Γ with
  | (p, l, e, s, m, args, below, meth, c, D, cA, ad, A, _, _, P) => ∀ (H : Heap) (locs : List Loc) (ls : Array Slot), zRng M → va_P D vwCl (zw ad cA μ.2.2.2.2.2.1 κ.1 M) H → va_D A (zw ad cA μ.2.2.2.2.2.1 κ.1 M) → va_S A s.heap H locs → (μ.2.2.2.2.2.2.2.1 ≠ 0 → H.size = s.heap.size + κ.2.1) → lv_has ls μ.2.2.1 L →
    W p l e (zRm μ.2.2.2.2.1 μ.2.2.2.2.2.2.2.1 μ.2.2.2.2.2.2.2.2) s m args below meth c H locs κ.2.1 κ.2.2 (MQ below (zQc μ.2.2.2.1 P D cA ad μ.2.2.2.2.2.1 (μ.2.2.2.2.2.2.1 + μ.2.2.2.2.2.2.2.1) μ.2.2.2.2.2.2.2.1 A) args s μ.2.2.2.2.2.2.2.1 μ.2.2.2.2.2.2.2.2 A) (F0 m pc ls st)
theorem zr_rng {Γ : zG} {μ : zMc} {κ : Nat × Nat × Nat} {pc : Nat} {L : List (Nat × Value)} {st : List Value} {M : zM} (h : zRng M → zV Γ μ κ pc L st M) : zV Γ μ κ pc L st M := fun H locs ls hR => h hR H locs ls hR
theorem zr_sub {Γ : zG} {μ : zMc} {κ : Nat × Nat × Nat} {pc : Nat} {L L' : List (Nat × Value)} {st : List Value} {M : zM} (ks : List Nat) (hl : lv_pick L ks = L') (h : zV Γ μ κ pc L' st M) : zV Γ μ κ pc L st M := fun H locs ls hR hP hD hS hz hv => h H locs ls hR hP hD hS hz (lv_sub hv ks hl)
theorem zr_stk {Γ : zG} {μ : zMc} {κ : Nat × Nat × Nat} {pc : Nat} {L : List (Nat × Value)} {st st' : List Value} {M : zM} (e : st' = st) (h : zV Γ μ κ pc L st M) : zV Γ μ κ pc L st' M := e ▸ h
theorem zr_iconst {Γ : zG} {μ : zMc} (C : zC Γ μ) {κ : Nat × Nat × Nat} {pc : Nat} {L : List (Nat × Value)} {st : List Value} {M : zM} {n : Int} (hd : decode μ.1 pc = .ok (.iconst n, 1)) (kk : zV Γ μ κ (pc + 1) L (zI n :: st) M) : zV Γ μ κ pc L st M := by
  obtain ⟨p, l, e, s, m, args, below, meth, c, D, cA, ad, A, t1, t2, P⟩ := Γ
  obtain ⟨⟨hx, hb, hml, hown, hts⟩, hr, hlk, hK, hA, hSt, hNs⟩ := C
  intro H locs ls hR hP hD hS hz hv
  exact lv_iconst hx hb hd rfl (kk H locs ls hR hP hD hS hz hv)
theorem zr_bipush {Γ : zG} {μ : zMc} (C : zC Γ μ) {κ : Nat × Nat × Nat} {pc : Nat} {L : List (Nat × Value)} {st : List Value} {M : zM} {n : Int} (hd : decode μ.1 pc = .ok (.bipush n, 2)) (hn : (Int8.ofInt n).toInt32 = Int32.ofInt n) (kk : zV Γ μ κ (pc + 2) L (zI n :: st) M) : zV Γ μ κ pc L st M := by
  obtain ⟨p, l, e, s, m, args, below, meth, c, D, cA, ad, A, t1, t2, P⟩ := Γ
  obtain ⟨⟨hx, hb, hml, hown, hts⟩, hr, hlk, hK, hA, hSt, hNs⟩ := C
  intro H locs ls hR hP hD hS hz hv
  exact lv_bipush hx hb hd hn (kk H locs ls hR hP hD hS hz hv)
theorem zr_sipush {Γ : zG} {μ : zMc} (C : zC Γ μ) {κ : Nat × Nat × Nat} {pc : Nat} {L : List (Nat × Value)} {st : List Value} {M : zM} {n : Int} (hd : decode μ.1 pc = .ok (.sipush n, 3)) (hn : (Int16.ofInt n).toInt32 = Int32.ofInt n) (kk : zV Γ μ κ (pc + 3) L (zI n :: st) M) : zV Γ μ κ pc L st M := by
  obtain ⟨p, l, e, s, m, args, below, meth, c, D, cA, ad, A, t1, t2, P⟩ := Γ
  obtain ⟨⟨hx, hb, hml, hown, hts⟩, hr, hlk, hK, hA, hSt, hNs⟩ := C
  intro H locs ls hR hP hD hS hz hv
  exact lv_sipush hx hb hd hn (kk H locs ls hR hP hD hS hz hv)
theorem zr_lconst {Γ : zG} {μ : zMc} (C : zC Γ μ) {κ : Nat × Nat × Nat} {pc : Nat} {L : List (Nat × Value)} {st : List Value} {M : zM} {n : Fin 2} {v : Int} (hd : decode μ.1 pc = .ok (.lconst n, 1)) (hn : Int64.ofNat (n : Nat) = Int64.ofInt v) (kk : zV Γ μ κ (pc + 1) L (zJ v :: st) M) : zV Γ μ κ pc L st M := by
  obtain ⟨p, l, e, s, m, args, below, meth, c, D, cA, ad, A, t1, t2, P⟩ := Γ
  obtain ⟨⟨hx, hb, hml, hown, hts⟩, hr, hlk, hK, hA, hSt, hNs⟩ := C
  intro H locs ls hR hP hD hS hz hv
  exact lv_lconst hx hb hd hn (kk H locs ls hR hP hD hS hz hv)
theorem zr_ldc {Γ : zG} {μ : zMc} (C : zC Γ μ) {κ : Nat × Nat × Nat} {pc : Nat} {L : List (Nat × Value)} {st : List Value} {M : zM} {i : Nat} {v : Int} (hd : decode μ.1 pc = .ok (.ldc i, 2)) (hw : Cond.constant μ.2.1 i (Int32.ofInt v) ∈ zTG) (kk : zV Γ μ κ (pc + 2) L (zI v :: st) M) : zV Γ μ κ pc L st M := by
  obtain ⟨p, l, e, s, m, args, below, meth, c, D, cA, ad, A, t1, t2, P⟩ := Γ
  obtain ⟨⟨hx, hb, hml, hown, hts⟩, hr, hlk, hK, hA, hSt, hNs⟩ := C
  intro H locs ls hR hP hD hS hz hv
  exact lv_ldc hx hb hown (hts _ hw) hd (kk H locs ls hR hP hD hS hz hv)
theorem zr_ldcw {Γ : zG} {μ : zMc} (C : zC Γ μ) {κ : Nat × Nat × Nat} {pc : Nat} {L : List (Nat × Value)} {st : List Value} {M : zM} {i : Nat} {v : Int} (hd : decode μ.1 pc = .ok (.ldc_w i, 3)) (hw : Cond.constant μ.2.1 i (Int32.ofInt v) ∈ zTG) (kk : zV Γ μ κ (pc + 3) L (zI v :: st) M) : zV Γ μ κ pc L st M := by
  obtain ⟨p, l, e, s, m, args, below, meth, c, D, cA, ad, A, t1, t2, P⟩ := Γ
  obtain ⟨⟨hx, hb, hml, hown, hts⟩, hr, hlk, hK, hA, hSt, hNs⟩ := C
  intro H locs ls hR hP hD hS hz hv
  exact lv_ldcw hx hb hown (hts _ hw) hd (kk H locs ls hR hP hD hS hz hv)
theorem zr_ldc2 {Γ : zG} {μ : zMc} (C : zC Γ μ) {κ : Nat × Nat × Nat} {pc : Nat} {L : List (Nat × Value)} {st : List Value} {M : zM} {i : Nat} {v : Int} (hd : decode μ.1 pc = .ok (.ldc2_w i, 3)) (hw : Cond.constantLong μ.2.1 i (Int64.ofInt v) ∈ zTG) (kk : zV Γ μ κ (pc + 3) L (zJ v :: st) M) : zV Γ μ κ pc L st M := by
  obtain ⟨p, l, e, s, m, args, below, meth, c, D, cA, ad, A, t1, t2, P⟩ := Γ
  obtain ⟨⟨hx, hb, hml, hown, hts⟩, hr, hlk, hK, hA, hSt, hNs⟩ := C
  intro H locs ls hR hP hD hS hz hv
  exact lv_ldc2 hx hb hown (hts _ hw) hd (kk H locs ls hR hP hD hS hz hv)
theorem zr_iload_n {Γ : zG} {μ : zMc} (C : zC Γ μ) {κ : Nat × Nat × Nat} {pc : Nat} {L : List (Nat × Value)} {st : List Value} {M : zM} {j : Fin 4} {i : Nat} {x : Int} (k : Nat) (hk : L[k]? = some (i, zI x)) (hd : decode μ.1 pc = .ok (.iload_n j, 1)) (hi : (j : Nat) = i) (kk : zV Γ μ κ (pc + 1) L (zI x :: st) M) : zV Γ μ κ pc L st M := by
  obtain ⟨p, l, e, s, m, args, below, meth, c, D, cA, ad, A, t1, t2, P⟩ := Γ
  obtain ⟨⟨hx, hb, hml, hown, hts⟩, hr, hlk, hK, hA, hSt, hNs⟩ := C
  intro H locs ls hR hP hD hS hz hv
  exact lv_iload_n hx hb hd hi (lv_at hv k hk) (kk H locs ls hR hP hD hS hz hv)
theorem zr_iload {Γ : zG} {μ : zMc} (C : zC Γ μ) {κ : Nat × Nat × Nat} {pc : Nat} {L : List (Nat × Value)} {st : List Value} {M : zM} {i : Nat} {x : Int} (k : Nat) (hk : L[k]? = some (i, zI x)) (hd : decode μ.1 pc = .ok (.iload i, 2)) (kk : zV Γ μ κ (pc + 2) L (zI x :: st) M) : zV Γ μ κ pc L st M := by
  obtain ⟨p, l, e, s, m, args, below, meth, c, D, cA, ad, A, t1, t2, P⟩ := Γ
  obtain ⟨⟨hx, hb, hml, hown, hts⟩, hr, hlk, hK, hA, hSt, hNs⟩ := C
  intro H locs ls hR hP hD hS hz hv
  exact lv_iload hx hb hd (lv_at hv k hk) (kk H locs ls hR hP hD hS hz hv)
theorem zr_lload_n {Γ : zG} {μ : zMc} (C : zC Γ μ) {κ : Nat × Nat × Nat} {pc : Nat} {L : List (Nat × Value)} {st : List Value} {M : zM} {j : Fin 4} {i : Nat} {x : Int} (k : Nat) (hk : L[k]? = some (i, zJ x)) (hd : decode μ.1 pc = .ok (.lload_n j, 1)) (hi : (j : Nat) = i) (kk : zV Γ μ κ (pc + 1) L (zJ x :: st) M) : zV Γ μ κ pc L st M := by
  obtain ⟨p, l, e, s, m, args, below, meth, c, D, cA, ad, A, t1, t2, P⟩ := Γ
  obtain ⟨⟨hx, hb, hml, hown, hts⟩, hr, hlk, hK, hA, hSt, hNs⟩ := C
  intro H locs ls hR hP hD hS hz hv
  exact lv_lload_n hx hb hd hi (lv_at hv k hk) (kk H locs ls hR hP hD hS hz hv)
theorem zr_lload {Γ : zG} {μ : zMc} (C : zC Γ μ) {κ : Nat × Nat × Nat} {pc : Nat} {L : List (Nat × Value)} {st : List Value} {M : zM} {i : Nat} {x : Int} (k : Nat) (hk : L[k]? = some (i, zJ x)) (hd : decode μ.1 pc = .ok (.lload i, 2)) (kk : zV Γ μ κ (pc + 2) L (zJ x :: st) M) : zV Γ μ κ pc L st M := by
  obtain ⟨p, l, e, s, m, args, below, meth, c, D, cA, ad, A, t1, t2, P⟩ := Γ
  obtain ⟨⟨hx, hb, hml, hown, hts⟩, hr, hlk, hK, hA, hSt, hNs⟩ := C
  intro H locs ls hR hP hD hS hz hv
  exact lv_lload hx hb hd (lv_at hv k hk) (kk H locs ls hR hP hD hS hz hv)
theorem zr_aload_n {Γ : zG} {μ : zMc} (C : zC Γ μ) {κ : Nat × Nat × Nat} {pc : Nat} {L : List (Nat × Value)} {st : List Value} {M : zM} {j : Fin 4} {i : Nat} {x : Int} (k : Nat) (hk : L[k]? = some (i, zRf (zad Γ) x)) (hd : decode μ.1 pc = .ok (.aload_n j, 1)) (hi : (j : Nat) = i) (kk : zV Γ μ κ (pc + 1) L (zRf (zad Γ) x :: st) M) : zV Γ μ κ pc L st M := by
  obtain ⟨p, l, e, s, m, args, below, meth, c, D, cA, ad, A, t1, t2, P⟩ := Γ
  obtain ⟨⟨hx, hb, hml, hown, hts⟩, hr, hlk, hK, hA, hSt, hNs⟩ := C
  intro H locs ls hR hP hD hS hz hv
  exact lv_aload_n hx hb hd hi (lv_at hv k hk) (kk H locs ls hR hP hD hS hz hv)
theorem zr_aloadA_n {Γ : zG} {μ : zMc} (C : zC Γ μ) {κ : Nat × Nat × Nat} {pc : Nat} {L : List (Nat × Value)} {st : List Value} {M : zM} {j : Fin 4} {i : Nat} {x : Int} (k : Nat) (hk : L[k]? = some (i, zA (zad Γ) x)) (hd : decode μ.1 pc = .ok (.aload_n j, 1)) (hi : (j : Nat) = i) (kk : zV Γ μ κ (pc + 1) L (zA (zad Γ) x :: st) M) : zV Γ μ κ pc L st M := by
  obtain ⟨p, l, e, s, m, args, below, meth, c, D, cA, ad, A, t1, t2, P⟩ := Γ
  obtain ⟨⟨hx, hb, hml, hown, hts⟩, hr, hlk, hK, hA, hSt, hNs⟩ := C
  intro H locs ls hR hP hD hS hz hv
  have hq := lv_at hv k hk
  have h := kk H locs ls hR hP hD hS hz hv
  by_cases g : x < 0
  · rw [show zA (zad (p, l, e, s, m, args, below, meth, c, D, cA, ad, A, t1, t2, P)) x = .null from if_pos g] at hq h
    exact lv_aload_nN hx hb hd hi hq h
  · rw [show zA (zad (p, l, e, s, m, args, below, meth, c, D, cA, ad, A, t1, t2, P)) x = .ref (ad x.toNat) from if_neg g] at hq h
    exact lv_aload_n hx hb hd hi hq h
theorem zr_aload {Γ : zG} {μ : zMc} (C : zC Γ μ) {κ : Nat × Nat × Nat} {pc : Nat} {L : List (Nat × Value)} {st : List Value} {M : zM} {i : Nat} {x : Int} (k : Nat) (hk : L[k]? = some (i, zRf (zad Γ) x)) (hd : decode μ.1 pc = .ok (.aload i, 2)) (kk : zV Γ μ κ (pc + 2) L (zRf (zad Γ) x :: st) M) : zV Γ μ κ pc L st M := by
  obtain ⟨p, l, e, s, m, args, below, meth, c, D, cA, ad, A, t1, t2, P⟩ := Γ
  obtain ⟨⟨hx, hb, hml, hown, hts⟩, hr, hlk, hK, hA, hSt, hNs⟩ := C
  intro H locs ls hR hP hD hS hz hv
  exact lv_aload hx hb hd (lv_at hv k hk) (kk H locs ls hR hP hD hS hz hv)
theorem zr_aloadA {Γ : zG} {μ : zMc} (C : zC Γ μ) {κ : Nat × Nat × Nat} {pc : Nat} {L : List (Nat × Value)} {st : List Value} {M : zM} {i : Nat} {x : Int} (k : Nat) (hk : L[k]? = some (i, zA (zad Γ) x)) (hd : decode μ.1 pc = .ok (.aload i, 2)) (kk : zV Γ μ κ (pc + 2) L (zA (zad Γ) x :: st) M) : zV Γ μ κ pc L st M := by
  obtain ⟨p, l, e, s, m, args, below, meth, c, D, cA, ad, A, t1, t2, P⟩ := Γ
  obtain ⟨⟨hx, hb, hml, hown, hts⟩, hr, hlk, hK, hA, hSt, hNs⟩ := C
  intro H locs ls hR hP hD hS hz hv
  have hq := lv_at hv k hk
  have h := kk H locs ls hR hP hD hS hz hv
  by_cases g : x < 0
  · rw [show zA (zad (p, l, e, s, m, args, below, meth, c, D, cA, ad, A, t1, t2, P)) x = .null from if_pos g] at hq h
    exact lv_aloadN hx hb hd hq h
  · rw [show zA (zad (p, l, e, s, m, args, below, meth, c, D, cA, ad, A, t1, t2, P)) x = .ref (ad x.toNat) from if_neg g] at hq h
    exact lv_aload hx hb hd hq h
theorem zr_istore_n {Γ : zG} {μ : zMc} (C : zC Γ μ) {κ : Nat × Nat × Nat} {pc : Nat} {L : List (Nat × Value)} {st : List Value} {M : zM} {j : Fin 4} {i : Nat} {x : Int} {L1 : List (Nat × Value)} (hd : decode μ.1 pc = .ok (.istore_n j, 1)) (hi : (j : Nat) = i) (hn : i < μ.2.2.1) (hl : (i, zI x) :: L.filter (fun q => !(q.1 == i) && !(q.1 + 1 == i && q.2.category == 2)) = L1) (kk : zV Γ μ κ (pc + 1) L1 st M) : zV Γ μ κ pc L (zI x :: st) M := by
  obtain ⟨p, l, e, s, m, args, below, meth, c, D, cA, ad, A, t1, t2, P⟩ := Γ
  obtain ⟨⟨hx, hb, hml, hown, hts⟩, hr, hlk, hK, hA, hSt, hNs⟩ := C
  intro H locs ls hR hP hD hS hz hv
  exact lv_istore_n hx hb hd hi hv hn hl (fun ls hv => kk H locs ls hR hP hD hS hz hv)
theorem zr_istore {Γ : zG} {μ : zMc} (C : zC Γ μ) {κ : Nat × Nat × Nat} {pc : Nat} {L : List (Nat × Value)} {st : List Value} {M : zM} {i : Nat} {x : Int} {L1 : List (Nat × Value)} (hd : decode μ.1 pc = .ok (.istore i, 2)) (hn : i < μ.2.2.1) (hl : (i, zI x) :: L.filter (fun q => !(q.1 == i) && !(q.1 + 1 == i && q.2.category == 2)) = L1) (kk : zV Γ μ κ (pc + 2) L1 st M) : zV Γ μ κ pc L (zI x :: st) M := by
  obtain ⟨p, l, e, s, m, args, below, meth, c, D, cA, ad, A, t1, t2, P⟩ := Γ
  obtain ⟨⟨hx, hb, hml, hown, hts⟩, hr, hlk, hK, hA, hSt, hNs⟩ := C
  intro H locs ls hR hP hD hS hz hv
  exact lv_istore hx hb hd hv hn hl (fun ls hv => kk H locs ls hR hP hD hS hz hv)
theorem zr_lstore_n {Γ : zG} {μ : zMc} (C : zC Γ μ) {κ : Nat × Nat × Nat} {pc : Nat} {L : List (Nat × Value)} {st : List Value} {M : zM} {j : Fin 4} {i : Nat} {x : Int} {L1 : List (Nat × Value)} (hd : decode μ.1 pc = .ok (.lstore_n j, 1)) (hi : (j : Nat) = i) (hn : i + 1 < μ.2.2.1) (hl : (i, zJ x) :: L.filter (fun q => !(q.1 == i) && (!(q.1 == i + 1) && !(q.1 + 1 == i && q.2.category == 2))) = L1) (kk : zV Γ μ κ (pc + 1) L1 st M) : zV Γ μ κ pc L (zJ x :: st) M := by
  obtain ⟨p, l, e, s, m, args, below, meth, c, D, cA, ad, A, t1, t2, P⟩ := Γ
  obtain ⟨⟨hx, hb, hml, hown, hts⟩, hr, hlk, hK, hA, hSt, hNs⟩ := C
  intro H locs ls hR hP hD hS hz hv
  exact lv_lstore_n hx hb hd hi hv hn hl (fun ls hv => kk H locs ls hR hP hD hS hz hv)
theorem zr_lstore {Γ : zG} {μ : zMc} (C : zC Γ μ) {κ : Nat × Nat × Nat} {pc : Nat} {L : List (Nat × Value)} {st : List Value} {M : zM} {i : Nat} {x : Int} {L1 : List (Nat × Value)} (hd : decode μ.1 pc = .ok (.lstore i, 2)) (hn : i + 1 < μ.2.2.1) (hl : (i, zJ x) :: L.filter (fun q => !(q.1 == i) && (!(q.1 == i + 1) && !(q.1 + 1 == i && q.2.category == 2))) = L1) (kk : zV Γ μ κ (pc + 2) L1 st M) : zV Γ μ κ pc L (zJ x :: st) M := by
  obtain ⟨p, l, e, s, m, args, below, meth, c, D, cA, ad, A, t1, t2, P⟩ := Γ
  obtain ⟨⟨hx, hb, hml, hown, hts⟩, hr, hlk, hK, hA, hSt, hNs⟩ := C
  intro H locs ls hR hP hD hS hz hv
  exact lv_lstore hx hb hd hv hn hl (fun ls hv => kk H locs ls hR hP hD hS hz hv)
theorem zr_astore_n {Γ : zG} {μ : zMc} (C : zC Γ μ) {κ : Nat × Nat × Nat} {pc : Nat} {L : List (Nat × Value)} {st : List Value} {M : zM} {j : Fin 4} {i : Nat} {x : Int} {L1 : List (Nat × Value)} (hd : decode μ.1 pc = .ok (.astore_n j, 1)) (hi : (j : Nat) = i) (hn : i < μ.2.2.1) (hl : (i, zRf (zad Γ) x) :: L.filter (fun q => !(q.1 == i) && !(q.1 + 1 == i && q.2.category == 2)) = L1) (kk : zV Γ μ κ (pc + 1) L1 st M) : zV Γ μ κ pc L (zRf (zad Γ) x :: st) M := by
  obtain ⟨p, l, e, s, m, args, below, meth, c, D, cA, ad, A, t1, t2, P⟩ := Γ
  obtain ⟨⟨hx, hb, hml, hown, hts⟩, hr, hlk, hK, hA, hSt, hNs⟩ := C
  intro H locs ls hR hP hD hS hz hv
  exact lv_astore_n hx hb hd hi hv hn hl (fun ls hv => kk H locs ls hR hP hD hS hz hv)
theorem zr_astoreA_n {Γ : zG} {μ : zMc} (C : zC Γ μ) {κ : Nat × Nat × Nat} {pc : Nat} {L : List (Nat × Value)} {st : List Value} {M : zM} {j : Fin 4} {i : Nat} {x : Int} {L1 : List (Nat × Value)} (hd : decode μ.1 pc = .ok (.astore_n j, 1)) (hi : (j : Nat) = i) (hn : i < μ.2.2.1) (hl : (i, zA (zad Γ) x) :: L.filter (fun q => !(q.1 == i) && !(q.1 + 1 == i && q.2.category == 2)) = L1) (kk : zV Γ μ κ (pc + 1) L1 st M) : zV Γ μ κ pc L (zA (zad Γ) x :: st) M := by
  obtain ⟨p, l, e, s, m, args, below, meth, c, D, cA, ad, A, t1, t2, P⟩ := Γ
  obtain ⟨⟨hx, hb, hml, hown, hts⟩, hr, hlk, hK, hA, hSt, hNs⟩ := C
  intro H locs ls hR hP hD hS hz hv
  by_cases g : x < 0
  · rw [show zA (zad (p, l, e, s, m, args, below, meth, c, D, cA, ad, A, t1, t2, P)) x = .null from if_pos g] at hl ⊢
    exact lv_astore_nN hx hb hd hi hv hn hl (fun ls hv => kk H locs ls hR hP hD hS hz hv)
  · rw [show zA (zad (p, l, e, s, m, args, below, meth, c, D, cA, ad, A, t1, t2, P)) x = .ref (ad x.toNat) from if_neg g] at hl ⊢
    exact lv_astore_n hx hb hd hi hv hn hl (fun ls hv => kk H locs ls hR hP hD hS hz hv)
theorem zr_astore {Γ : zG} {μ : zMc} (C : zC Γ μ) {κ : Nat × Nat × Nat} {pc : Nat} {L : List (Nat × Value)} {st : List Value} {M : zM} {i : Nat} {x : Int} {L1 : List (Nat × Value)} (hd : decode μ.1 pc = .ok (.astore i, 2)) (hn : i < μ.2.2.1) (hl : (i, zRf (zad Γ) x) :: L.filter (fun q => !(q.1 == i) && !(q.1 + 1 == i && q.2.category == 2)) = L1) (kk : zV Γ μ κ (pc + 2) L1 st M) : zV Γ μ κ pc L (zRf (zad Γ) x :: st) M := by
  obtain ⟨p, l, e, s, m, args, below, meth, c, D, cA, ad, A, t1, t2, P⟩ := Γ
  obtain ⟨⟨hx, hb, hml, hown, hts⟩, hr, hlk, hK, hA, hSt, hNs⟩ := C
  intro H locs ls hR hP hD hS hz hv
  exact lv_astore hx hb hd hv hn hl (fun ls hv => kk H locs ls hR hP hD hS hz hv)
theorem zr_astoreA {Γ : zG} {μ : zMc} (C : zC Γ μ) {κ : Nat × Nat × Nat} {pc : Nat} {L : List (Nat × Value)} {st : List Value} {M : zM} {i : Nat} {x : Int} {L1 : List (Nat × Value)} (hd : decode μ.1 pc = .ok (.astore i, 2)) (hn : i < μ.2.2.1) (hl : (i, zA (zad Γ) x) :: L.filter (fun q => !(q.1 == i) && !(q.1 + 1 == i && q.2.category == 2)) = L1) (kk : zV Γ μ κ (pc + 2) L1 st M) : zV Γ μ κ pc L (zA (zad Γ) x :: st) M := by
  obtain ⟨p, l, e, s, m, args, below, meth, c, D, cA, ad, A, t1, t2, P⟩ := Γ
  obtain ⟨⟨hx, hb, hml, hown, hts⟩, hr, hlk, hK, hA, hSt, hNs⟩ := C
  intro H locs ls hR hP hD hS hz hv
  by_cases g : x < 0
  · rw [show zA (zad (p, l, e, s, m, args, below, meth, c, D, cA, ad, A, t1, t2, P)) x = .null from if_pos g] at hl ⊢
    exact lv_astoreN hx hb hd hv hn hl (fun ls hv => kk H locs ls hR hP hD hS hz hv)
  · rw [show zA (zad (p, l, e, s, m, args, below, meth, c, D, cA, ad, A, t1, t2, P)) x = .ref (ad x.toNat) from if_neg g] at hl ⊢
    exact lv_astore hx hb hd hv hn hl (fun ls hv => kk H locs ls hR hP hD hS hz hv)
theorem zr_iinc {Γ : zG} {μ : zMc} (C : zC Γ μ) {κ : Nat × Nat × Nat} {pc : Nat} {L : List (Nat × Value)} {st : List Value} {M : zM} {i : Nat} {n x : Int} {L1 : List (Nat × Value)} (k : Nat) (hk : L[k]? = some (i, zI x)) (hd : decode μ.1 pc = .ok (.iinc i n, 3)) (hn : i < μ.2.2.1) (hl : (i, zI (x + n)) :: L.filter (fun q => !(q.1 == i) && !(q.1 + 1 == i && q.2.category == 2)) = L1) (kk : zV Γ μ κ (pc + 3) L1 st M) : zV Γ μ κ pc L st M := by
  obtain ⟨p, l, e, s, m, args, below, meth, c, D, cA, ad, A, t1, t2, P⟩ := Γ
  obtain ⟨⟨hx, hb, hml, hown, hts⟩, hr, hlk, hK, hA, hSt, hNs⟩ := C
  intro H locs ls hR hP hD hS hz hv
  exact lv_iinc (k := k) hx hb hd hv hk (z_add _ _) hn hl (fun ls hv => kk H locs ls hR hP hD hS hz hv)
theorem zr_iadd {Γ : zG} {μ : zMc} (C : zC Γ μ) {κ : Nat × Nat × Nat} {pc : Nat} {L : List (Nat × Value)} {st : List Value} {M : zM} {x y : Int} (hd : decode μ.1 pc = .ok (.iadd, 1)) (kk : zV Γ μ κ (pc + 1) L (zI (x + y) :: st) M) : zV Γ μ κ pc L (zI y :: zI x :: st) M := by
  obtain ⟨p, l, e, s, m, args, below, meth, c, D, cA, ad, A, t1, t2, P⟩ := Γ
  obtain ⟨⟨hx, hb, hml, hown, hts⟩, hr, hlk, hK, hA, hSt, hNs⟩ := C
  intro H locs ls hR hP hD hS hz hv
  refine lv_iadd hx hb hd ?_
  rw [z_add]
  exact kk H locs ls hR hP hD hS hz hv
theorem zr_isub {Γ : zG} {μ : zMc} (C : zC Γ μ) {κ : Nat × Nat × Nat} {pc : Nat} {L : List (Nat × Value)} {st : List Value} {M : zM} {x y : Int} (hd : decode μ.1 pc = .ok (.isub, 1)) (kk : zV Γ μ κ (pc + 1) L (zI (x - y) :: st) M) : zV Γ μ κ pc L (zI y :: zI x :: st) M := by
  obtain ⟨p, l, e, s, m, args, below, meth, c, D, cA, ad, A, t1, t2, P⟩ := Γ
  obtain ⟨⟨hx, hb, hml, hown, hts⟩, hr, hlk, hK, hA, hSt, hNs⟩ := C
  intro H locs ls hR hP hD hS hz hv
  refine lv_isub hx hb hd ?_
  rw [z_sub]
  exact kk H locs ls hR hP hD hS hz hv
theorem zr_imul {Γ : zG} {μ : zMc} (C : zC Γ μ) {κ : Nat × Nat × Nat} {pc : Nat} {L : List (Nat × Value)} {st : List Value} {M : zM} {x y : Int} (hd : decode μ.1 pc = .ok (.imul, 1)) (kk : zV Γ μ κ (pc + 1) L (zI (x * y) :: st) M) : zV Γ μ κ pc L (zI y :: zI x :: st) M := by
  obtain ⟨p, l, e, s, m, args, below, meth, c, D, cA, ad, A, t1, t2, P⟩ := Γ
  obtain ⟨⟨hx, hb, hml, hown, hts⟩, hr, hlk, hK, hA, hSt, hNs⟩ := C
  intro H locs ls hR hP hD hS hz hv
  refine lv_imul hx hb hd ?_
  rw [z_mul]
  exact kk H locs ls hR hP hD hS hz hv
theorem zr_ladd {Γ : zG} {μ : zMc} (C : zC Γ μ) {κ : Nat × Nat × Nat} {pc : Nat} {L : List (Nat × Value)} {st : List Value} {M : zM} {x y : Int} (hd : decode μ.1 pc = .ok (.ladd, 1)) (kk : zV Γ μ κ (pc + 1) L (zJ (x + y) :: st) M) : zV Γ μ κ pc L (zJ y :: zJ x :: st) M := by
  obtain ⟨p, l, e, s, m, args, below, meth, c, D, cA, ad, A, t1, t2, P⟩ := Γ
  obtain ⟨⟨hx, hb, hml, hown, hts⟩, hr, hlk, hK, hA, hSt, hNs⟩ := C
  intro H locs ls hR hP hD hS hz hv
  refine lv_ladd hx hb hd ?_
  rw [z_ladd]
  exact kk H locs ls hR hP hD hS hz hv
theorem zr_lsub {Γ : zG} {μ : zMc} (C : zC Γ μ) {κ : Nat × Nat × Nat} {pc : Nat} {L : List (Nat × Value)} {st : List Value} {M : zM} {x y : Int} (hd : decode μ.1 pc = .ok (.lsub, 1)) (kk : zV Γ μ κ (pc + 1) L (zJ (x - y) :: st) M) : zV Γ μ κ pc L (zJ y :: zJ x :: st) M := by
  obtain ⟨p, l, e, s, m, args, below, meth, c, D, cA, ad, A, t1, t2, P⟩ := Γ
  obtain ⟨⟨hx, hb, hml, hown, hts⟩, hr, hlk, hK, hA, hSt, hNs⟩ := C
  intro H locs ls hR hP hD hS hz hv
  refine lv_lsub hx hb hd ?_
  rw [z_lsub]
  exact kk H locs ls hR hP hD hS hz hv
theorem zr_lmul {Γ : zG} {μ : zMc} (C : zC Γ μ) {κ : Nat × Nat × Nat} {pc : Nat} {L : List (Nat × Value)} {st : List Value} {M : zM} {x y : Int} (hd : decode μ.1 pc = .ok (.lmul, 1)) (kk : zV Γ μ κ (pc + 1) L (zJ (x * y) :: st) M) : zV Γ μ κ pc L (zJ y :: zJ x :: st) M := by
  obtain ⟨p, l, e, s, m, args, below, meth, c, D, cA, ad, A, t1, t2, P⟩ := Γ
  obtain ⟨⟨hx, hb, hml, hown, hts⟩, hr, hlk, hK, hA, hSt, hNs⟩ := C
  intro H locs ls hR hP hD hS hz hv
  refine lv_lmul hx hb hd ?_
  rw [z_lmul]
  exact kk H locs ls hR hP hD hS hz hv
theorem zr_ineg {Γ : zG} {μ : zMc} (C : zC Γ μ) {κ : Nat × Nat × Nat} {pc : Nat} {L : List (Nat × Value)} {st : List Value} {M : zM} {x : Int} (hd : decode μ.1 pc = .ok (.ineg, 1)) (kk : zV Γ μ κ (pc + 1) L (zI (-x) :: st) M) : zV Γ μ κ pc L (zI x :: st) M := by
  obtain ⟨p, l, e, s, m, args, below, meth, c, D, cA, ad, A, t1, t2, P⟩ := Γ
  obtain ⟨⟨hx, hb, hml, hown, hts⟩, hr, hlk, hK, hA, hSt, hNs⟩ := C
  intro H locs ls hR hP hD hS hz hv
  refine lv_ineg hx hb hd ?_
  rw [z_neg]
  exact kk H locs ls hR hP hD hS hz hv
theorem zr_idiv {Γ : zG} {μ : zMc} (C : zC Γ μ) {κ : Nat × Nat × Nat} {pc : Nat} {L : List (Nat × Value)} {st : List Value} {M : zM} {x y : Int} (h1 : zin x) (h2 : zin y) (h3 : 0 ≤ x ∧ 0 < y) (hd : decode μ.1 pc = .ok (.idiv, 1)) (kk : zV Γ μ κ (pc + 1) L (zI (x / y) :: st) M) : zV Γ μ κ pc L (zI y :: zI x :: st) M := by
  obtain ⟨p, l, e, s, m, args, below, meth, c, D, cA, ad, A, t1, t2, P⟩ := Γ
  obtain ⟨⟨hx, hb, hml, hown, hts⟩, hr, hlk, hK, hA, hSt, hNs⟩ := C
  intro H locs ls hR hP hD hS hz hv
  have hne : ¬ Int32.ofInt y = 0 := fun q => by
    have q := (z_eq (b := 0) h2 (by decide)).mp q
    omega
  refine lv_idiv hx hb hd hne ?_
  rw [z_div h3.1 h1 h3.2 h2]
  exact kk H locs ls hR hP hD hS hz hv
theorem zr_irem {Γ : zG} {μ : zMc} (C : zC Γ μ) {κ : Nat × Nat × Nat} {pc : Nat} {L : List (Nat × Value)} {st : List Value} {M : zM} {x y : Int} (h1 : zin x) (h2 : zin y) (h3 : 0 ≤ x ∧ 0 < y) (hd : decode μ.1 pc = .ok (.irem, 1)) (kk : zV Γ μ κ (pc + 1) L (zI (x % y) :: st) M) : zV Γ μ κ pc L (zI y :: zI x :: st) M := by
  obtain ⟨p, l, e, s, m, args, below, meth, c, D, cA, ad, A, t1, t2, P⟩ := Γ
  obtain ⟨⟨hx, hb, hml, hown, hts⟩, hr, hlk, hK, hA, hSt, hNs⟩ := C
  intro H locs ls hR hP hD hS hz hv
  have hne : ¬ Int32.ofInt y = 0 := fun q => by
    have q := (z_eq (b := 0) h2 (by decide)).mp q
    omega
  refine lv_irem hx hb hd hne ?_
  rw [z_rem h3.1 h1 h3.2 h2]
  exact kk H locs ls hR hP hD hS hz hv
theorem zr_iand {Γ : zG} {μ : zMc} (C : zC Γ μ) {κ : Nat × Nat × Nat} {pc : Nat} {L : List (Nat × Value)} {st : List Value} {M : zM} {x y : Int} (hd : decode μ.1 pc = .ok (.iand, 1)) (kk : zV Γ μ κ (pc + 1) L (zI (zland x y) :: st) M) : zV Γ μ κ pc L (zI y :: zI x :: st) M := by
  obtain ⟨p, l, e, s, m, args, below, meth, c, D, cA, ad, A, t1, t2, P⟩ := Γ
  obtain ⟨⟨hx, hb, hml, hown, hts⟩, hr, hlk, hK, hA, hSt, hNs⟩ := C
  intro H locs ls hR hP hD hS hz hv
  refine lv_iand hx hb hd ?_
  have h := kk H locs ls hR hP hD hS hz hv
  rw [zI, zland, z_rt] at h
  exact h
theorem zr_ior {Γ : zG} {μ : zMc} (C : zC Γ μ) {κ : Nat × Nat × Nat} {pc : Nat} {L : List (Nat × Value)} {st : List Value} {M : zM} {x y : Int} (hd : decode μ.1 pc = .ok (.ior, 1)) (kk : zV Γ μ κ (pc + 1) L (zI (zlor x y) :: st) M) : zV Γ μ κ pc L (zI y :: zI x :: st) M := by
  obtain ⟨p, l, e, s, m, args, below, meth, c, D, cA, ad, A, t1, t2, P⟩ := Γ
  obtain ⟨⟨hx, hb, hml, hown, hts⟩, hr, hlk, hK, hA, hSt, hNs⟩ := C
  intro H locs ls hR hP hD hS hz hv
  refine lv_ior hx hb hd ?_
  have h := kk H locs ls hR hP hD hS hz hv
  rw [zI, zlor, z_rt] at h
  exact h
theorem zr_ixor {Γ : zG} {μ : zMc} (C : zC Γ μ) {κ : Nat × Nat × Nat} {pc : Nat} {L : List (Nat × Value)} {st : List Value} {M : zM} {x y : Int} (hd : decode μ.1 pc = .ok (.ixor, 1)) (kk : zV Γ μ κ (pc + 1) L (zI (zlxor x y) :: st) M) : zV Γ μ κ pc L (zI y :: zI x :: st) M := by
  obtain ⟨p, l, e, s, m, args, below, meth, c, D, cA, ad, A, t1, t2, P⟩ := Γ
  obtain ⟨⟨hx, hb, hml, hown, hts⟩, hr, hlk, hK, hA, hSt, hNs⟩ := C
  intro H locs ls hR hP hD hS hz hv
  refine lv_ixor hx hb hd ?_
  have h := kk H locs ls hR hP hD hS hz hv
  rw [zI, zlxor, z_rt] at h
  exact h
theorem zr_ishl {Γ : zG} {μ : zMc} (C : zC Γ μ) {κ : Nat × Nat × Nat} {pc : Nat} {L : List (Nat × Value)} {st : List Value} {M : zM} {x y : Int} (hd : decode μ.1 pc = .ok (.ishl, 1)) (kk : zV Γ μ κ (pc + 1) L (zI (zshl x y) :: st) M) : zV Γ μ κ pc L (zI y :: zI x :: st) M := by
  obtain ⟨p, l, e, s, m, args, below, meth, c, D, cA, ad, A, t1, t2, P⟩ := Γ
  obtain ⟨⟨hx, hb, hml, hown, hts⟩, hr, hlk, hK, hA, hSt, hNs⟩ := C
  intro H locs ls hR hP hD hS hz hv
  refine lv_ishl hx hb hd ?_
  have h := kk H locs ls hR hP hD hS hz hv
  rw [zI, zshl, z_rt] at h
  exact h
theorem zr_ishr {Γ : zG} {μ : zMc} (C : zC Γ μ) {κ : Nat × Nat × Nat} {pc : Nat} {L : List (Nat × Value)} {st : List Value} {M : zM} {x y : Int} (hd : decode μ.1 pc = .ok (.ishr, 1)) (kk : zV Γ μ κ (pc + 1) L (zI (zshr x y) :: st) M) : zV Γ μ κ pc L (zI y :: zI x :: st) M := by
  obtain ⟨p, l, e, s, m, args, below, meth, c, D, cA, ad, A, t1, t2, P⟩ := Γ
  obtain ⟨⟨hx, hb, hml, hown, hts⟩, hr, hlk, hK, hA, hSt, hNs⟩ := C
  intro H locs ls hR hP hD hS hz hv
  refine lv_ishr hx hb hd ?_
  have h := kk H locs ls hR hP hD hS hz hv
  rw [zI, zshr, z_rt] at h
  exact h
theorem zr_iushr {Γ : zG} {μ : zMc} (C : zC Γ μ) {κ : Nat × Nat × Nat} {pc : Nat} {L : List (Nat × Value)} {st : List Value} {M : zM} {x y : Int} (hd : decode μ.1 pc = .ok (.iushr, 1)) (kk : zV Γ μ κ (pc + 1) L (zI (zushr x y) :: st) M) : zV Γ μ κ pc L (zI y :: zI x :: st) M := by
  obtain ⟨p, l, e, s, m, args, below, meth, c, D, cA, ad, A, t1, t2, P⟩ := Γ
  obtain ⟨⟨hx, hb, hml, hown, hts⟩, hr, hlk, hK, hA, hSt, hNs⟩ := C
  intro H locs ls hR hP hD hS hz hv
  have h := kk H locs ls hR hP hD hS hz hv
  rw [zI, zushr, z_rt] at h
  exact lv_iushr hx hb hd rfl h
theorem zr_i2l {Γ : zG} {μ : zMc} (C : zC Γ μ) {κ : Nat × Nat × Nat} {pc : Nat} {L : List (Nat × Value)} {st : List Value} {M : zM} {x : Int} (h1 : zin x) (hd : decode μ.1 pc = .ok (.i2l, 1)) (kk : zV Γ μ κ (pc + 1) L (zJ x :: st) M) : zV Γ μ κ pc L (zI x :: st) M := by
  obtain ⟨p, l, e, s, m, args, below, meth, c, D, cA, ad, A, t1, t2, P⟩ := Γ
  obtain ⟨⟨hx, hb, hml, hown, hts⟩, hr, hlk, hK, hA, hSt, hNs⟩ := C
  intro H locs ls hR hP hD hS hz hv
  exact lv_i2l hx hb hd (z_i2l h1) (kk H locs ls hR hP hD hS hz hv)
theorem zr_l2i {Γ : zG} {μ : zMc} (C : zC Γ μ) {κ : Nat × Nat × Nat} {pc : Nat} {L : List (Nat × Value)} {st : List Value} {M : zM} {x : Int} (hd : decode μ.1 pc = .ok (.l2i, 1)) (kk : zV Γ μ κ (pc + 1) L (zI x :: st) M) : zV Γ μ κ pc L (zJ x :: st) M := by
  obtain ⟨p, l, e, s, m, args, below, meth, c, D, cA, ad, A, t1, t2, P⟩ := Γ
  obtain ⟨⟨hx, hb, hml, hown, hts⟩, hr, hlk, hK, hA, hSt, hNs⟩ := C
  intro H locs ls hR hP hD hS hz hv
  exact lv_l2i hx hb hd (z_l2i x) (kk H locs ls hR hP hD hS hz hv)
theorem zr_i2b {Γ : zG} {μ : zMc} (C : zC Γ μ) {κ : Nat × Nat × Nat} {pc : Nat} {L : List (Nat × Value)} {st : List Value} {M : zM} {x : Int} (hd : decode μ.1 pc = .ok (.i2b, 1)) (kk : zV Γ μ κ (pc + 1) L (zI (Int.bmod x 256) :: st) M) : zV Γ μ κ pc L (zI x :: st) M := by
  obtain ⟨p, l, e, s, m, args, below, meth, c, D, cA, ad, A, t1, t2, P⟩ := Γ
  obtain ⟨⟨hx, hb, hml, hown, hts⟩, hr, hlk, hK, hA, hSt, hNs⟩ := C
  intro H locs ls hR hP hD hS hz hv
  exact lv_i2b hx hb hd (z_i2b x) (kk H locs ls hR hP hD hS hz hv)
theorem zr_i2s {Γ : zG} {μ : zMc} (C : zC Γ μ) {κ : Nat × Nat × Nat} {pc : Nat} {L : List (Nat × Value)} {st : List Value} {M : zM} {x : Int} (hd : decode μ.1 pc = .ok (.i2s, 1)) (kk : zV Γ μ κ (pc + 1) L (zI (Int.bmod x 65536) :: st) M) : zV Γ μ κ pc L (zI x :: st) M := by
  obtain ⟨p, l, e, s, m, args, below, meth, c, D, cA, ad, A, t1, t2, P⟩ := Γ
  obtain ⟨⟨hx, hb, hml, hown, hts⟩, hr, hlk, hK, hA, hSt, hNs⟩ := C
  intro H locs ls hR hP hD hS hz hv
  exact lv_i2s hx hb hd (z_i2s x) (kk H locs ls hR hP hD hS hz hv)
theorem zr_dup {Γ : zG} {μ : zMc} (C : zC Γ μ) {κ : Nat × Nat × Nat} {pc : Nat} {L : List (Nat × Value)} {st : List Value} {M : zM} {v : Value} (hc : v.category = 1) (hd : decode μ.1 pc = .ok (.dup, 1)) (kk : zV Γ μ κ (pc + 1) L (v :: v :: st) M) : zV Γ μ κ pc L (v :: st) M := by
  obtain ⟨p, l, e, s, m, args, below, meth, c, D, cA, ad, A, t1, t2, P⟩ := Γ
  obtain ⟨⟨hx, hb, hml, hown, hts⟩, hr, hlk, hK, hA, hSt, hNs⟩ := C
  intro H locs ls hR hP hD hS hz hv
  exact lv_dup hx hb hd hc (kk H locs ls hR hP hD hS hz hv)
theorem zr_dup2 {Γ : zG} {μ : zMc} (C : zC Γ μ) {κ : Nat × Nat × Nat} {pc : Nat} {L : List (Nat × Value)} {st : List Value} {M : zM} {v u : Value} (hc : v.category = 1) (hu : u.category = 1) (hd : decode μ.1 pc = .ok (.dup2, 1)) (kk : zV Γ μ κ (pc + 1) L (v :: u :: v :: u :: st) M) : zV Γ μ κ pc L (v :: u :: st) M := by
  obtain ⟨p, l, e, s, m, args, below, meth, c, D, cA, ad, A, t1, t2, P⟩ := Γ
  obtain ⟨⟨hx, hb, hml, hown, hts⟩, hr, hlk, hK, hA, hSt, hNs⟩ := C
  intro H locs ls hR hP hD hS hz hv
  exact lv_dup2_11 hx hb hd hc hu (kk H locs ls hR hP hD hS hz hv)
theorem zr_pop {Γ : zG} {μ : zMc} (C : zC Γ μ) {κ : Nat × Nat × Nat} {pc : Nat} {L : List (Nat × Value)} {st : List Value} {M : zM} {v : Value} (hc : v.category = 1) (hd : decode μ.1 pc = .ok (.pop, 1)) (kk : zV Γ μ κ (pc + 1) L st M) : zV Γ μ κ pc L (v :: st) M := by
  obtain ⟨p, l, e, s, m, args, below, meth, c, D, cA, ad, A, t1, t2, P⟩ := Γ
  obtain ⟨⟨hx, hb, hml, hown, hts⟩, hr, hlk, hK, hA, hSt, hNs⟩ := C
  intro H locs ls hR hP hD hS hz hv
  exact lv_pop hx hb hd hc (kk H locs ls hR hP hD hS hz hv)
theorem zr_goto {Γ : zG} {μ : zMc} (C : zC Γ μ) {κ : Nat × Nat × Nat} {pc : Nat} {L : List (Nat × Value)} {st : List Value} {M : zM} {off : Int} {tgt : Nat} (hd : decode μ.1 pc = .ok (.goto off, 3)) (ht : (pc : Int) + off = (tgt : Int)) (kk : zV Γ μ κ (tgt) L st M) : zV Γ μ κ pc L st M := by
  obtain ⟨p, l, e, s, m, args, below, meth, c, D, cA, ad, A, t1, t2, P⟩ := Γ
  obtain ⟨⟨hx, hb, hml, hown, hts⟩, hr, hlk, hK, hA, hSt, hNs⟩ := C
  intro H locs ls hR hP hD hS hz hv
  exact lv_goto hx hb hd ht (kk H locs ls hR hP hD hS hz hv)
theorem zr_null {Γ : zG} {μ : zMc} (C : zC Γ μ) {κ : Nat × Nat × Nat} {pc : Nat} {L : List (Nat × Value)} {st : List Value} {M : zM} (hd : decode μ.1 pc = .ok (.aconst_null, 1)) (kk : zV Γ μ κ (pc + 1) L (.null :: st) M) : zV Γ μ κ pc L st M := by
  obtain ⟨p, l, e, s, m, args, below, meth, c, D, cA, ad, A, t1, t2, P⟩ := Γ
  obtain ⟨⟨hx, hb, hml, hown, hts⟩, hr, hlk, hK, hA, hSt, hNs⟩ := C
  intro H locs ls hR hP hD hS hz hv
  exact lv_null hx hb hd (kk H locs ls hR hP hD hS hz hv)
theorem zr_if_eq {Γ : zG} {μ : zMc} (C : zC Γ μ) {κ : Nat × Nat × Nat} {pc : Nat} {L : List (Nat × Value)} {st : List Value} {M : zM} {x : Int} {off : Int} {tgt : Nat} (h1 : zin x) (hd : decode μ.1 pc = .ok (.ifCond .eq off, 3)) (ht : (pc : Int) + off = (tgt : Int)) (kt : x = 0 → zV Γ μ κ (tgt) L st M) (kf : ¬ (x = 0) → zV Γ μ κ (pc + 3) L st M) : zV Γ μ κ pc L (zI x :: st) M := by
  obtain ⟨p, l, e, s, m, args, below, meth, c, D, cA, ad, A, t1, t2, P⟩ := Γ
  obtain ⟨⟨hx, hb, hml, hown, hts⟩, hr, hlk, hK, hA, hSt, hNs⟩ := C
  intro H locs ls hR hP hD hS hz hv
  exact lv_if_eq hx hb hd ht (fun g => kt ((z_eq h1 (show zin (0 : Int) by decide)).mp g) H locs ls hR hP hD hS hz hv) (fun g => kf (fun q => g ((z_eq h1 (show zin (0 : Int) by decide)).mpr q)) H locs ls hR hP hD hS hz hv)
theorem zr_icmp_eq {Γ : zG} {μ : zMc} (C : zC Γ μ) {κ : Nat × Nat × Nat} {pc : Nat} {L : List (Nat × Value)} {st : List Value} {M : zM} {x y : Int} {off : Int} {tgt : Nat} (h1 : zin x) (h2 : zin y) (hd : decode μ.1 pc = .ok (.if_icmp .eq off, 3)) (ht : (pc : Int) + off = (tgt : Int)) (kt : x = y → zV Γ μ κ (tgt) L st M) (kf : ¬ (x = y) → zV Γ μ κ (pc + 3) L st M) : zV Γ μ κ pc L (zI y :: zI x :: st) M := by
  obtain ⟨p, l, e, s, m, args, below, meth, c, D, cA, ad, A, t1, t2, P⟩ := Γ
  obtain ⟨⟨hx, hb, hml, hown, hts⟩, hr, hlk, hK, hA, hSt, hNs⟩ := C
  intro H locs ls hR hP hD hS hz hv
  exact lv_icmp_eq hx hb hd ht (fun g => kt ((z_eq h1 h2).mp g) H locs ls hR hP hD hS hz hv) (fun g => kf (fun q => g ((z_eq h1 h2).mpr q)) H locs ls hR hP hD hS hz hv)
theorem zr_if_ne {Γ : zG} {μ : zMc} (C : zC Γ μ) {κ : Nat × Nat × Nat} {pc : Nat} {L : List (Nat × Value)} {st : List Value} {M : zM} {x : Int} {off : Int} {tgt : Nat} (h1 : zin x) (hd : decode μ.1 pc = .ok (.ifCond .ne off, 3)) (ht : (pc : Int) + off = (tgt : Int)) (kt : x ≠ 0 → zV Γ μ κ (tgt) L st M) (kf : x = 0 → zV Γ μ κ (pc + 3) L st M) : zV Γ μ κ pc L (zI x :: st) M := by
  obtain ⟨p, l, e, s, m, args, below, meth, c, D, cA, ad, A, t1, t2, P⟩ := Γ
  obtain ⟨⟨hx, hb, hml, hown, hts⟩, hr, hlk, hK, hA, hSt, hNs⟩ := C
  intro H locs ls hR hP hD hS hz hv
  refine lv_if_ne hx hb hd ht (fun g => kt (fun q => g ?_) H locs ls hR hP hD hS hz hv) (fun g => kf ?_ H locs ls hR hP hD hS hz hv)
  · exact (z_eq h1 (show zin (0 : Int) by decide)).mpr q
  · exact (z_eq h1 (show zin (0 : Int) by decide)).mp g
theorem zr_icmp_ne {Γ : zG} {μ : zMc} (C : zC Γ μ) {κ : Nat × Nat × Nat} {pc : Nat} {L : List (Nat × Value)} {st : List Value} {M : zM} {x y : Int} {off : Int} {tgt : Nat} (h1 : zin x) (h2 : zin y) (hd : decode μ.1 pc = .ok (.if_icmp .ne off, 3)) (ht : (pc : Int) + off = (tgt : Int)) (kt : x ≠ y → zV Γ μ κ (tgt) L st M) (kf : x = y → zV Γ μ κ (pc + 3) L st M) : zV Γ μ κ pc L (zI y :: zI x :: st) M := by
  obtain ⟨p, l, e, s, m, args, below, meth, c, D, cA, ad, A, t1, t2, P⟩ := Γ
  obtain ⟨⟨hx, hb, hml, hown, hts⟩, hr, hlk, hK, hA, hSt, hNs⟩ := C
  intro H locs ls hR hP hD hS hz hv
  refine lv_icmp_ne hx hb hd ht (fun g => kt (fun q => g ?_) H locs ls hR hP hD hS hz hv) (fun g => kf ?_ H locs ls hR hP hD hS hz hv)
  · exact (z_eq h1 h2).mpr q
  · exact (z_eq h1 h2).mp g
theorem zr_if_lt {Γ : zG} {μ : zMc} (C : zC Γ μ) {κ : Nat × Nat × Nat} {pc : Nat} {L : List (Nat × Value)} {st : List Value} {M : zM} {x : Int} {off : Int} {tgt : Nat} (h1 : zin x) (hd : decode μ.1 pc = .ok (.ifCond .lt off, 3)) (ht : (pc : Int) + off = (tgt : Int)) (kt : x < 0 → zV Γ μ κ (tgt) L st M) (kf : ¬ (x < 0) → zV Γ μ κ (pc + 3) L st M) : zV Γ μ κ pc L (zI x :: st) M := by
  obtain ⟨p, l, e, s, m, args, below, meth, c, D, cA, ad, A, t1, t2, P⟩ := Γ
  obtain ⟨⟨hx, hb, hml, hown, hts⟩, hr, hlk, hK, hA, hSt, hNs⟩ := C
  intro H locs ls hR hP hD hS hz hv
  exact lv_if_lt hx hb hd ht (fun g => kt ((z_lt h1 (show zin (0 : Int) by decide)).mp g) H locs ls hR hP hD hS hz hv) (fun g => kf (fun q => g ((z_lt h1 (show zin (0 : Int) by decide)).mpr q)) H locs ls hR hP hD hS hz hv)
theorem zr_icmp_lt {Γ : zG} {μ : zMc} (C : zC Γ μ) {κ : Nat × Nat × Nat} {pc : Nat} {L : List (Nat × Value)} {st : List Value} {M : zM} {x y : Int} {off : Int} {tgt : Nat} (h1 : zin x) (h2 : zin y) (hd : decode μ.1 pc = .ok (.if_icmp .lt off, 3)) (ht : (pc : Int) + off = (tgt : Int)) (kt : x < y → zV Γ μ κ (tgt) L st M) (kf : ¬ (x < y) → zV Γ μ κ (pc + 3) L st M) : zV Γ μ κ pc L (zI y :: zI x :: st) M := by
  obtain ⟨p, l, e, s, m, args, below, meth, c, D, cA, ad, A, t1, t2, P⟩ := Γ
  obtain ⟨⟨hx, hb, hml, hown, hts⟩, hr, hlk, hK, hA, hSt, hNs⟩ := C
  intro H locs ls hR hP hD hS hz hv
  exact lv_icmp_lt hx hb hd ht (fun g => kt ((z_lt h1 h2).mp g) H locs ls hR hP hD hS hz hv) (fun g => kf (fun q => g ((z_lt h1 h2).mpr q)) H locs ls hR hP hD hS hz hv)
theorem zr_if_ge {Γ : zG} {μ : zMc} (C : zC Γ μ) {κ : Nat × Nat × Nat} {pc : Nat} {L : List (Nat × Value)} {st : List Value} {M : zM} {x : Int} {off : Int} {tgt : Nat} (h1 : zin x) (hd : decode μ.1 pc = .ok (.ifCond .ge off, 3)) (ht : (pc : Int) + off = (tgt : Int)) (kt : 0 ≤ x → zV Γ μ κ (tgt) L st M) (kf : ¬ (0 ≤ x) → zV Γ μ κ (pc + 3) L st M) : zV Γ μ κ pc L (zI x :: st) M := by
  obtain ⟨p, l, e, s, m, args, below, meth, c, D, cA, ad, A, t1, t2, P⟩ := Γ
  obtain ⟨⟨hx, hb, hml, hown, hts⟩, hr, hlk, hK, hA, hSt, hNs⟩ := C
  intro H locs ls hR hP hD hS hz hv
  exact lv_if_ge hx hb hd ht (fun g => kt ((z_le (show zin (0 : Int) by decide) h1).mp g) H locs ls hR hP hD hS hz hv) (fun g => kf (fun q => g ((z_le (show zin (0 : Int) by decide) h1).mpr q)) H locs ls hR hP hD hS hz hv)
theorem zr_icmp_ge {Γ : zG} {μ : zMc} (C : zC Γ μ) {κ : Nat × Nat × Nat} {pc : Nat} {L : List (Nat × Value)} {st : List Value} {M : zM} {x y : Int} {off : Int} {tgt : Nat} (h1 : zin x) (h2 : zin y) (hd : decode μ.1 pc = .ok (.if_icmp .ge off, 3)) (ht : (pc : Int) + off = (tgt : Int)) (kt : y ≤ x → zV Γ μ κ (tgt) L st M) (kf : ¬ (y ≤ x) → zV Γ μ κ (pc + 3) L st M) : zV Γ μ κ pc L (zI y :: zI x :: st) M := by
  obtain ⟨p, l, e, s, m, args, below, meth, c, D, cA, ad, A, t1, t2, P⟩ := Γ
  obtain ⟨⟨hx, hb, hml, hown, hts⟩, hr, hlk, hK, hA, hSt, hNs⟩ := C
  intro H locs ls hR hP hD hS hz hv
  exact lv_icmp_ge hx hb hd ht (fun g => kt ((z_le h2 h1).mp g) H locs ls hR hP hD hS hz hv) (fun g => kf (fun q => g ((z_le h2 h1).mpr q)) H locs ls hR hP hD hS hz hv)
theorem zr_if_gt {Γ : zG} {μ : zMc} (C : zC Γ μ) {κ : Nat × Nat × Nat} {pc : Nat} {L : List (Nat × Value)} {st : List Value} {M : zM} {x : Int} {off : Int} {tgt : Nat} (h1 : zin x) (hd : decode μ.1 pc = .ok (.ifCond .gt off, 3)) (ht : (pc : Int) + off = (tgt : Int)) (kt : 0 < x → zV Γ μ κ (tgt) L st M) (kf : ¬ (0 < x) → zV Γ μ κ (pc + 3) L st M) : zV Γ μ κ pc L (zI x :: st) M := by
  obtain ⟨p, l, e, s, m, args, below, meth, c, D, cA, ad, A, t1, t2, P⟩ := Γ
  obtain ⟨⟨hx, hb, hml, hown, hts⟩, hr, hlk, hK, hA, hSt, hNs⟩ := C
  intro H locs ls hR hP hD hS hz hv
  exact lv_if_gt hx hb hd ht (fun g => kt ((z_lt (show zin (0 : Int) by decide) h1).mp g) H locs ls hR hP hD hS hz hv) (fun g => kf (fun q => g ((z_lt (show zin (0 : Int) by decide) h1).mpr q)) H locs ls hR hP hD hS hz hv)
theorem zr_icmp_gt {Γ : zG} {μ : zMc} (C : zC Γ μ) {κ : Nat × Nat × Nat} {pc : Nat} {L : List (Nat × Value)} {st : List Value} {M : zM} {x y : Int} {off : Int} {tgt : Nat} (h1 : zin x) (h2 : zin y) (hd : decode μ.1 pc = .ok (.if_icmp .gt off, 3)) (ht : (pc : Int) + off = (tgt : Int)) (kt : y < x → zV Γ μ κ (tgt) L st M) (kf : ¬ (y < x) → zV Γ μ κ (pc + 3) L st M) : zV Γ μ κ pc L (zI y :: zI x :: st) M := by
  obtain ⟨p, l, e, s, m, args, below, meth, c, D, cA, ad, A, t1, t2, P⟩ := Γ
  obtain ⟨⟨hx, hb, hml, hown, hts⟩, hr, hlk, hK, hA, hSt, hNs⟩ := C
  intro H locs ls hR hP hD hS hz hv
  exact lv_icmp_gt hx hb hd ht (fun g => kt ((z_lt h2 h1).mp g) H locs ls hR hP hD hS hz hv) (fun g => kf (fun q => g ((z_lt h2 h1).mpr q)) H locs ls hR hP hD hS hz hv)
theorem zr_if_le {Γ : zG} {μ : zMc} (C : zC Γ μ) {κ : Nat × Nat × Nat} {pc : Nat} {L : List (Nat × Value)} {st : List Value} {M : zM} {x : Int} {off : Int} {tgt : Nat} (h1 : zin x) (hd : decode μ.1 pc = .ok (.ifCond .le off, 3)) (ht : (pc : Int) + off = (tgt : Int)) (kt : x ≤ 0 → zV Γ μ κ (tgt) L st M) (kf : ¬ (x ≤ 0) → zV Γ μ κ (pc + 3) L st M) : zV Γ μ κ pc L (zI x :: st) M := by
  obtain ⟨p, l, e, s, m, args, below, meth, c, D, cA, ad, A, t1, t2, P⟩ := Γ
  obtain ⟨⟨hx, hb, hml, hown, hts⟩, hr, hlk, hK, hA, hSt, hNs⟩ := C
  intro H locs ls hR hP hD hS hz hv
  exact lv_if_le hx hb hd ht (fun g => kt ((z_le h1 (show zin (0 : Int) by decide)).mp g) H locs ls hR hP hD hS hz hv) (fun g => kf (fun q => g ((z_le h1 (show zin (0 : Int) by decide)).mpr q)) H locs ls hR hP hD hS hz hv)
theorem zr_icmp_le {Γ : zG} {μ : zMc} (C : zC Γ μ) {κ : Nat × Nat × Nat} {pc : Nat} {L : List (Nat × Value)} {st : List Value} {M : zM} {x y : Int} {off : Int} {tgt : Nat} (h1 : zin x) (h2 : zin y) (hd : decode μ.1 pc = .ok (.if_icmp .le off, 3)) (ht : (pc : Int) + off = (tgt : Int)) (kt : x ≤ y → zV Γ μ κ (tgt) L st M) (kf : ¬ (x ≤ y) → zV Γ μ κ (pc + 3) L st M) : zV Γ μ κ pc L (zI y :: zI x :: st) M := by
  obtain ⟨p, l, e, s, m, args, below, meth, c, D, cA, ad, A, t1, t2, P⟩ := Γ
  obtain ⟨⟨hx, hb, hml, hown, hts⟩, hr, hlk, hK, hA, hSt, hNs⟩ := C
  intro H locs ls hR hP hD hS hz hv
  exact lv_icmp_le hx hb hd ht (fun g => kt ((z_le h1 h2).mp g) H locs ls hR hP hD hS hz hv) (fun g => kf (fun q => g ((z_le h1 h2).mpr q)) H locs ls hR hP hD hS hz hv)
abbrev zin64 (v : Int) : Prop := -9223372036854775808 ≤ v ∧ v ≤ 9223372036854775807
theorem z_tL {v : Int} (h : zin64 v) : (Int64.ofInt v).toInt = v := Int64.toInt_ofInt_of_le h.1 (by have := h.2; omega)
theorem z_cmp {x y : Int} (hx : zin64 x) (hy : zin64 y) : lg_cmp (Int64.ofInt x) (Int64.ofInt y) = Int32.ofInt (if y < x then 1 else if x = y then 0 else -1) := by
  unfold lg_cmp
  simp only [gt_iff_lt, Int64.lt_iff_toInt_lt, ← Int64.toInt_inj, z_tL hx, z_tL hy]
  split
  · rfl
  · split <;> rfl
theorem zr_lcmp_eq {Γ : zG} {μ : zMc} (C : zC Γ μ) {κ : Nat × Nat × Nat} {pc : Nat} {L : List (Nat × Value)} {st : List Value} {M : zM} {x y : Int} {off : Int} {tgt : Nat} (h1 : zin64 x) (h2 : zin64 y) (hd : decode μ.1 pc = .ok (.lcmp, 1)) (hd2 : decode μ.1 (pc + 1) = .ok (.ifCond .eq off, 3)) (ht : ((pc + 1 : Nat) : Int) + off = (tgt : Int)) (kt : x = y → zV Γ μ κ (tgt) L st M) (kf : ¬ (x = y) → zV Γ μ κ (pc + 1 + 3) L st M) : zV Γ μ κ pc L (zJ y :: zJ x :: st) M := by
  obtain ⟨p, l, e, s, m, args, below, meth, c, D, cA, ad, A, t1, t2, P⟩ := Γ
  obtain ⟨⟨hx, hb, hml, hown, hts⟩, hr, hlk, hK, hA, hSt, hNs⟩ := C
  intro H locs ls hR hP hD hS hz hv
  refine W.lcmp hx hb hd ?_
  rw [z_cmp h1 h2]
  have hq : zin (if y < x then (1 : Int) else if x = y then 0 else -1) := by
    unfold zin
    split
    · omega
    · split <;> omega
  refine zr_if_eq (Γ := (p, l, e, s, m, args, below, meth, c, D, cA, ad, A, t1, t2, P)) (L := L) (st := st) (M := M) (κ := κ) ⟨⟨hx, hb, hml, hown, hts⟩, hr, hlk, hK, hA, hSt, hNs⟩ hq hd2 ht (fun g => kt ?_) (fun g => kf ?_) H locs ls hR hP hD hS hz hv
  all_goals (split at g <;> first | omega | (split at g <;> omega))
theorem zr_lcmp_ne {Γ : zG} {μ : zMc} (C : zC Γ μ) {κ : Nat × Nat × Nat} {pc : Nat} {L : List (Nat × Value)} {st : List Value} {M : zM} {x y : Int} {off : Int} {tgt : Nat} (h1 : zin64 x) (h2 : zin64 y) (hd : decode μ.1 pc = .ok (.lcmp, 1)) (hd2 : decode μ.1 (pc + 1) = .ok (.ifCond .ne off, 3)) (ht : ((pc + 1 : Nat) : Int) + off = (tgt : Int)) (kt : x ≠ y → zV Γ μ κ (tgt) L st M) (kf : x = y → zV Γ μ κ (pc + 1 + 3) L st M) : zV Γ μ κ pc L (zJ y :: zJ x :: st) M := by
  obtain ⟨p, l, e, s, m, args, below, meth, c, D, cA, ad, A, t1, t2, P⟩ := Γ
  obtain ⟨⟨hx, hb, hml, hown, hts⟩, hr, hlk, hK, hA, hSt, hNs⟩ := C
  intro H locs ls hR hP hD hS hz hv
  refine W.lcmp hx hb hd ?_
  rw [z_cmp h1 h2]
  have hq : zin (if y < x then (1 : Int) else if x = y then 0 else -1) := by
    unfold zin
    split
    · omega
    · split <;> omega
  refine zr_if_ne (Γ := (p, l, e, s, m, args, below, meth, c, D, cA, ad, A, t1, t2, P)) (L := L) (st := st) (M := M) (κ := κ) ⟨⟨hx, hb, hml, hown, hts⟩, hr, hlk, hK, hA, hSt, hNs⟩ hq hd2 ht (fun g => kt ?_) (fun g => kf ?_) H locs ls hR hP hD hS hz hv
  all_goals (split at g <;> first | omega | (split at g <;> omega))
theorem zr_lcmp_lt {Γ : zG} {μ : zMc} (C : zC Γ μ) {κ : Nat × Nat × Nat} {pc : Nat} {L : List (Nat × Value)} {st : List Value} {M : zM} {x y : Int} {off : Int} {tgt : Nat} (h1 : zin64 x) (h2 : zin64 y) (hd : decode μ.1 pc = .ok (.lcmp, 1)) (hd2 : decode μ.1 (pc + 1) = .ok (.ifCond .lt off, 3)) (ht : ((pc + 1 : Nat) : Int) + off = (tgt : Int)) (kt : x < y → zV Γ μ κ (tgt) L st M) (kf : ¬ (x < y) → zV Γ μ κ (pc + 1 + 3) L st M) : zV Γ μ κ pc L (zJ y :: zJ x :: st) M := by
  obtain ⟨p, l, e, s, m, args, below, meth, c, D, cA, ad, A, t1, t2, P⟩ := Γ
  obtain ⟨⟨hx, hb, hml, hown, hts⟩, hr, hlk, hK, hA, hSt, hNs⟩ := C
  intro H locs ls hR hP hD hS hz hv
  refine W.lcmp hx hb hd ?_
  rw [z_cmp h1 h2]
  have hq : zin (if y < x then (1 : Int) else if x = y then 0 else -1) := by
    unfold zin
    split
    · omega
    · split <;> omega
  refine zr_if_lt (Γ := (p, l, e, s, m, args, below, meth, c, D, cA, ad, A, t1, t2, P)) (L := L) (st := st) (M := M) (κ := κ) ⟨⟨hx, hb, hml, hown, hts⟩, hr, hlk, hK, hA, hSt, hNs⟩ hq hd2 ht (fun g => kt ?_) (fun g => kf ?_) H locs ls hR hP hD hS hz hv
  all_goals (split at g <;> first | omega | (split at g <;> omega))
theorem zr_lcmp_ge {Γ : zG} {μ : zMc} (C : zC Γ μ) {κ : Nat × Nat × Nat} {pc : Nat} {L : List (Nat × Value)} {st : List Value} {M : zM} {x y : Int} {off : Int} {tgt : Nat} (h1 : zin64 x) (h2 : zin64 y) (hd : decode μ.1 pc = .ok (.lcmp, 1)) (hd2 : decode μ.1 (pc + 1) = .ok (.ifCond .ge off, 3)) (ht : ((pc + 1 : Nat) : Int) + off = (tgt : Int)) (kt : y ≤ x → zV Γ μ κ (tgt) L st M) (kf : ¬ (y ≤ x) → zV Γ μ κ (pc + 1 + 3) L st M) : zV Γ μ κ pc L (zJ y :: zJ x :: st) M := by
  obtain ⟨p, l, e, s, m, args, below, meth, c, D, cA, ad, A, t1, t2, P⟩ := Γ
  obtain ⟨⟨hx, hb, hml, hown, hts⟩, hr, hlk, hK, hA, hSt, hNs⟩ := C
  intro H locs ls hR hP hD hS hz hv
  refine W.lcmp hx hb hd ?_
  rw [z_cmp h1 h2]
  have hq : zin (if y < x then (1 : Int) else if x = y then 0 else -1) := by
    unfold zin
    split
    · omega
    · split <;> omega
  refine zr_if_ge (Γ := (p, l, e, s, m, args, below, meth, c, D, cA, ad, A, t1, t2, P)) (L := L) (st := st) (M := M) (κ := κ) ⟨⟨hx, hb, hml, hown, hts⟩, hr, hlk, hK, hA, hSt, hNs⟩ hq hd2 ht (fun g => kt ?_) (fun g => kf ?_) H locs ls hR hP hD hS hz hv
  all_goals (split at g <;> first | omega | (split at g <;> omega))
theorem zr_lcmp_gt {Γ : zG} {μ : zMc} (C : zC Γ μ) {κ : Nat × Nat × Nat} {pc : Nat} {L : List (Nat × Value)} {st : List Value} {M : zM} {x y : Int} {off : Int} {tgt : Nat} (h1 : zin64 x) (h2 : zin64 y) (hd : decode μ.1 pc = .ok (.lcmp, 1)) (hd2 : decode μ.1 (pc + 1) = .ok (.ifCond .gt off, 3)) (ht : ((pc + 1 : Nat) : Int) + off = (tgt : Int)) (kt : y < x → zV Γ μ κ (tgt) L st M) (kf : ¬ (y < x) → zV Γ μ κ (pc + 1 + 3) L st M) : zV Γ μ κ pc L (zJ y :: zJ x :: st) M := by
  obtain ⟨p, l, e, s, m, args, below, meth, c, D, cA, ad, A, t1, t2, P⟩ := Γ
  obtain ⟨⟨hx, hb, hml, hown, hts⟩, hr, hlk, hK, hA, hSt, hNs⟩ := C
  intro H locs ls hR hP hD hS hz hv
  refine W.lcmp hx hb hd ?_
  rw [z_cmp h1 h2]
  have hq : zin (if y < x then (1 : Int) else if x = y then 0 else -1) := by
    unfold zin
    split
    · omega
    · split <;> omega
  refine zr_if_gt (Γ := (p, l, e, s, m, args, below, meth, c, D, cA, ad, A, t1, t2, P)) (L := L) (st := st) (M := M) (κ := κ) ⟨⟨hx, hb, hml, hown, hts⟩, hr, hlk, hK, hA, hSt, hNs⟩ hq hd2 ht (fun g => kt ?_) (fun g => kf ?_) H locs ls hR hP hD hS hz hv
  all_goals (split at g <;> first | omega | (split at g <;> omega))
theorem zr_lcmp_le {Γ : zG} {μ : zMc} (C : zC Γ μ) {κ : Nat × Nat × Nat} {pc : Nat} {L : List (Nat × Value)} {st : List Value} {M : zM} {x y : Int} {off : Int} {tgt : Nat} (h1 : zin64 x) (h2 : zin64 y) (hd : decode μ.1 pc = .ok (.lcmp, 1)) (hd2 : decode μ.1 (pc + 1) = .ok (.ifCond .le off, 3)) (ht : ((pc + 1 : Nat) : Int) + off = (tgt : Int)) (kt : x ≤ y → zV Γ μ κ (tgt) L st M) (kf : ¬ (x ≤ y) → zV Γ μ κ (pc + 1 + 3) L st M) : zV Γ μ κ pc L (zJ y :: zJ x :: st) M := by
  obtain ⟨p, l, e, s, m, args, below, meth, c, D, cA, ad, A, t1, t2, P⟩ := Γ
  obtain ⟨⟨hx, hb, hml, hown, hts⟩, hr, hlk, hK, hA, hSt, hNs⟩ := C
  intro H locs ls hR hP hD hS hz hv
  refine W.lcmp hx hb hd ?_
  rw [z_cmp h1 h2]
  have hq : zin (if y < x then (1 : Int) else if x = y then 0 else -1) := by
    unfold zin
    split
    · omega
    · split <;> omega
  refine zr_if_le (Γ := (p, l, e, s, m, args, below, meth, c, D, cA, ad, A, t1, t2, P)) (L := L) (st := st) (M := M) (κ := κ) ⟨⟨hx, hb, hml, hown, hts⟩, hr, hlk, hK, hA, hSt, hNs⟩ hq hd2 ht (fun g => kt ?_) (fun g => kf ?_) H locs ls hR hP hD hS hz hv
  all_goals (split at g <;> first | omega | (split at g <;> omega))
theorem zr_ifnull {Γ : zG} {μ : zMc} (C : zC Γ μ) {κ : Nat × Nat × Nat} {pc : Nat} {L : List (Nat × Value)} {st : List Value} {M : zM} {x off : Int} {tgt : Nat} (hd : decode μ.1 pc = .ok (.ifnull off, 3)) (ht : (pc : Int) + off = (tgt : Int)) (kt : x < 0 → zV Γ μ κ (tgt) L st M) (kf : ¬ x < 0 → zV Γ μ κ (pc + 3) L st M) : zV Γ μ κ pc L (zA (zad Γ) x :: st) M := by
  obtain ⟨p, l, e, s, m, args, below, meth, c, D, cA, ad, A, t1, t2, P⟩ := Γ
  obtain ⟨⟨hx, hb, hml, hown, hts⟩, hr, hlk, hK, hA, hSt, hNs⟩ := C
  intro H locs ls hR hP hD hS hz hv
  by_cases g : x < 0
  · rw [zA, if_pos g]
    exact lv_ifnullN hx hb hd ht (kt g H locs ls hR hP hD hS hz hv)
  · rw [zA, if_neg g]
    exact lv_ifnull hx hb hd (kf g H locs ls hR hP hD hS hz hv)
theorem zr_ifnonnull {Γ : zG} {μ : zMc} (C : zC Γ μ) {κ : Nat × Nat × Nat} {pc : Nat} {L : List (Nat × Value)} {st : List Value} {M : zM} {x off : Int} {tgt : Nat} (hd : decode μ.1 pc = .ok (.ifnonnull off, 3)) (ht : (pc : Int) + off = (tgt : Int)) (kt : ¬ x < 0 → zV Γ μ κ (tgt) L st M) (kf : x < 0 → zV Γ μ κ (pc + 3) L st M) : zV Γ μ κ pc L (zA (zad Γ) x :: st) M := by
  obtain ⟨p, l, e, s, m, args, below, meth, c, D, cA, ad, A, t1, t2, P⟩ := Γ
  obtain ⟨⟨hx, hb, hml, hown, hts⟩, hr, hlk, hK, hA, hSt, hNs⟩ := C
  intro H locs ls hR hP hD hS hz hv
  by_cases g : x < 0
  · rw [zA, if_pos g]
    exact lv_ifnonnullN hx hb hd (kf g H locs ls hR hP hD hS hz hv)
  · rw [zA, if_neg g]
    exact lv_ifnonnull hx hb hd ht (kt g H locs ls hR hP hD hS hz hv)
theorem zA_pos {ad : Nat → Nat} {x : Int} (h : ¬ x < 0) : zA ad x = zRf ad x := if_neg h
theorem zA_neg {ad : Nat → Nat} {x : Int} (h : x < 0) : zA ad x = .null := if_pos h
theorem zr_tsin {Γ : zG} {μ : zMc} (C : zC Γ μ) {κ : Nat × Nat × Nat} {pc : Nat} {L : List (Nat × Value)} {st : List Value} {M : zM} {dflt lo hi : Int} {offs : Array Int} {len : Nat} {x off : Int} {tgt : Nat} (j : Nat) (g : x = lo + j) (h1 : zin x) (hhi : lo + j ≤ hi) (hd : decode μ.1 pc = .ok (.tableswitch dflt lo hi offs, len)) (ho : offs[j]? = some off) (ht : (pc : Int) + off = (tgt : Int)) (kk : zV Γ μ κ tgt L st M) : zV Γ μ κ pc L (zI x :: st) M := by
  obtain ⟨p, l, e, s, m, args, below, meth, c, D, cA, ad, A, t1, t2, P⟩ := Γ
  obtain ⟨⟨hx, hb, hml, hown, hts⟩, hr, hlk, hK, hA, hSt, hNs⟩ := C
  intro H locs ls hR hP hD hS hz hv
  refine lv_tableIn hx hb hd (by rw [z_tI h1]; omega) (by rw [z_tI h1]; omega) ?_ ht (kk H locs ls hR hP hD hS hz hv)
  rw [z_tI h1, show (x - lo).toNat = j by omega]
  exact ho
theorem zr_tsout {Γ : zG} {μ : zMc} (C : zC Γ μ) {κ : Nat × Nat × Nat} {pc : Nat} {L : List (Nat × Value)} {st : List Value} {M : zM} {dflt lo hi : Int} {offs : Array Int} {len : Nat} {x : Int} {tgt : Nat} (g : x < lo ∨ hi < x) (h1 : zin x) (hd : decode μ.1 pc = .ok (.tableswitch dflt lo hi offs, len)) (ht : (pc : Int) + dflt = (tgt : Int)) (kk : zV Γ μ κ tgt L st M) : zV Γ μ κ pc L (zI x :: st) M := by
  obtain ⟨p, l, e, s, m, args, below, meth, c, D, cA, ad, A, t1, t2, P⟩ := Γ
  obtain ⟨⟨hx, hb, hml, hown, hts⟩, hr, hlk, hK, hA, hSt, hNs⟩ := C
  intro H locs ls hR hP hD hS hz hv
  exact lv_tableOut hx hb hd (by rw [z_tI h1]; exact g) ht (kk H locs ls hR hP hD hS hz hv)
theorem z64 {v : Int} (h : zin v) : zin64 v := ⟨by have := h.1; omega, by have := h.2; omega⟩
theorem z_rz {a b : Int} (h : 0 ≤ a ∧ 0 < b) (hb : zin b) : zin (a % b) := ⟨by have := Int.emod_nonneg a (show b ≠ 0 by omega); omega, by have := Int.emod_lt_of_pos a h.2; have := hb.2; omega⟩
theorem z_dz2 {a b : Int} (h : 0 ≤ a ∧ 0 < b) (ha : zin a) : zin (a / b) := z_dz h.1 ha h.2
theorem zr_ireturn {Γ : zG} {μ : zMc} (C : zC Γ μ) {κ : Nat × Nat × Nat} {pc : Nat} {L : List (Nat × Value)} {M : zM} {r : Int} (hret : μ.2.2.2.1 = some .int) (hd : decode μ.1 pc = .ok (.ireturn, 1)) (hκ : κ = (μ.2.2.2.2.2.2.1 + μ.2.2.2.2.2.2.2.1, μ.2.2.2.2.2.2.2.1, μ.2.2.2.2.2.2.2.2)) (kk : zin r ∧ zP Γ r M) : zV Γ μ κ pc L [zI r] M := by
  obtain ⟨p, l, e, s, m, args, below, meth, c, D, cA, ad, A, t1, t2, P⟩ := Γ
  obtain ⟨⟨hx, hb, hml, hown, hts⟩, hr, hlk, hK, hA, hSt, hNs⟩ := C
  intro H locs ls hR hP hD hS hz hv
  subst hκ
  exact W.iret hx hb (hr.trans hret) (fun t ht hW => ⟨⟨r, M, kk.1, by rw [hret]; rfl, kk.2, hR, by rw [ht]; exact hP, hD, by rw [ht]; exact hz⟩, hS.F ht⟩) hS.2.2 hd
theorem zr_zreturn {Γ : zG} {μ : zMc} (C : zC Γ μ) {κ : Nat × Nat × Nat} {pc : Nat} {L : List (Nat × Value)} {M : zM} {r : Int} (hret : μ.2.2.2.1 = some .boolean) (h01 : r = 0 ∨ r = 1) (hd : decode μ.1 pc = .ok (.ireturn, 1)) (hκ : κ = (μ.2.2.2.2.2.2.1 + μ.2.2.2.2.2.2.2.1, μ.2.2.2.2.2.2.2.1, μ.2.2.2.2.2.2.2.2)) (kk : zin r ∧ zP Γ r M) : zV Γ μ κ pc L [zI r] M := by
  obtain ⟨p, l, e, s, m, args, below, meth, c, D, cA, ad, A, t1, t2, P⟩ := Γ
  obtain ⟨⟨hx, hb, hml, hown, hts⟩, hr, hlk, hK, hA, hSt, hNs⟩ := C
  intro H locs ls hR hP hD hS hz hv
  subst hκ
  exact W.zret hx hb (hr.trans hret) (by rcases h01 with rfl | rfl <;> rfl) (fun t ht hW => ⟨⟨r, M, kk.1, by rw [hret]; rfl, kk.2, hR, by rw [ht]; exact hP, hD, by rw [ht]; exact hz⟩, hS.F ht⟩) hS.2.2 hd
theorem zr_lreturn {Γ : zG} {μ : zMc} (C : zC Γ μ) {κ : Nat × Nat × Nat} {pc : Nat} {L : List (Nat × Value)} {M : zM} {r : Int} (hret : μ.2.2.2.1 = some .long) (hd : decode μ.1 pc = .ok (.lreturn, 1)) (hκ : κ = (μ.2.2.2.2.2.2.1 + μ.2.2.2.2.2.2.2.1, μ.2.2.2.2.2.2.2.1, μ.2.2.2.2.2.2.2.2)) (kk : zin r ∧ zP Γ r M) : zV Γ μ κ pc L [zJ r] M := by
  obtain ⟨p, l, e, s, m, args, below, meth, c, D, cA, ad, A, t1, t2, P⟩ := Γ
  obtain ⟨⟨hx, hb, hml, hown, hts⟩, hr, hlk, hK, hA, hSt, hNs⟩ := C
  intro H locs ls hR hP hD hS hz hv
  subst hκ
  exact W.lret hx hb (hr.trans hret) (fun t ht hW => ⟨⟨r, M, kk.1, by rw [hret]; rfl, kk.2, hR, by rw [ht]; exact hP, hD, by rw [ht]; exact hz⟩, hS.F ht⟩) hS.2.2 hd
theorem zr_areturn {Γ : zG} {μ : zMc} (C : zC Γ μ) {κ : Nat × Nat × Nat} {pc : Nat} {L : List (Nat × Value)} {M : zM} {r : Int} {cn : String} (hret : μ.2.2.2.1 = some (.object cn)) (hd : decode μ.1 pc = .ok (.areturn, 1)) (hκ : κ = (μ.2.2.2.2.2.2.1 + μ.2.2.2.2.2.2.2.1, μ.2.2.2.2.2.2.2.1, μ.2.2.2.2.2.2.2.2)) (kk : zin r ∧ zP Γ r M) : zV Γ μ κ pc L [zA (zad Γ) r] M := by
  obtain ⟨p, l, e, s, m, args, below, meth, c, D, cA, ad, A, t1, t2, P⟩ := Γ
  obtain ⟨⟨hx, hb, hml, hown, hts⟩, hr, hlk, hK, hA, hSt, hNs⟩ := C
  intro H locs ls hR hP hD hS hz hv
  subst hκ
  refine W.aret hx hb (hr.trans hret) (Or.inl ⟨cn, rfl⟩) ?_ (fun t ht hW => ⟨⟨r, M, kk.1, by rw [hret]; rfl, kk.2, hR, by rw [ht]; exact hP, hD, by rw [ht]; exact hz⟩, hS.F ht⟩) hS.2.2 hd
  by_cases g : r < 0
  · exact Or.inl (if_pos g)
  · exact Or.inr ⟨_, if_neg g⟩
theorem zr_areturnR {Γ : zG} {μ : zMc} (C : zC Γ μ) {κ : Nat × Nat × Nat} {pc : Nat} {L : List (Nat × Value)} {M : zM} {r : Int} {cn : String} (hret : μ.2.2.2.1 = some (.object cn)) (hr0 : 0 ≤ r) (hd : decode μ.1 pc = .ok (.areturn, 1)) (hκ : κ = (μ.2.2.2.2.2.2.1 + μ.2.2.2.2.2.2.2.1, μ.2.2.2.2.2.2.2.1, μ.2.2.2.2.2.2.2.2)) (kk : zin r ∧ zP Γ r M) : zV Γ μ κ pc L [zRf (zad Γ) r] M := by
  obtain ⟨p, l, e, s, m, args, below, meth, c, D, cA, ad, A, t1, t2, P⟩ := Γ
  obtain ⟨⟨hx, hb, hml, hown, hts⟩, hr, hlk, hK, hA, hSt, hNs⟩ := C
  intro H locs ls hR hP hD hS hz hv
  subst hκ
  refine W.aret hx hb (hr.trans hret) (Or.inl ⟨cn, rfl⟩) (Or.inr ⟨_, rfl⟩) (fun t ht hW => ⟨⟨r, M, kk.1, by rw [hret]; show _ = Outcome.returned (some (zA ad r)); rw [zA_pos (by omega)]; rfl, kk.2, hR, by rw [ht]; exact hP, hD, by rw [ht]; exact hz⟩, hS.F ht⟩) hS.2.2 hd
theorem zr_areturnN {Γ : zG} {μ : zMc} (C : zC Γ μ) {κ : Nat × Nat × Nat} {pc : Nat} {L : List (Nat × Value)} {M : zM} {r : Int} {cn : String} (hret : μ.2.2.2.1 = some (.object cn)) (hr0 : r = -1) (hd : decode μ.1 pc = .ok (.areturn, 1)) (hκ : κ = (μ.2.2.2.2.2.2.1 + μ.2.2.2.2.2.2.2.1, μ.2.2.2.2.2.2.2.1, μ.2.2.2.2.2.2.2.2)) (kk : zin r ∧ zP Γ r M) : zV Γ μ κ pc L [.null] M := by
  obtain ⟨p, l, e, s, m, args, below, meth, c, D, cA, ad, A, t1, t2, P⟩ := Γ
  obtain ⟨⟨hx, hb, hml, hown, hts⟩, hr, hlk, hK, hA, hSt, hNs⟩ := C
  intro H locs ls hR hP hD hS hz hv
  subst hκ
  subst hr0; refine W.aret hx hb (hr.trans hret) (Or.inl ⟨cn, rfl⟩) (Or.inl rfl) (fun t ht hW => ⟨⟨-1, M, kk.1, by rw [hret]; rfl, kk.2, hR, by rw [ht]; exact hP, hD, by rw [ht]; exact hz⟩, hS.F ht⟩) hS.2.2 hd
theorem zr_return {Γ : zG} {μ : zMc} (C : zC Γ μ) {κ : Nat × Nat × Nat} {pc : Nat} {L : List (Nat × Value)} {M : zM} {r : Int} (hret : μ.2.2.2.1 = none) (hr0 : r = 0) (hd : decode μ.1 pc = .ok (.return_, 1)) (hκ : κ = (μ.2.2.2.2.2.2.1 + μ.2.2.2.2.2.2.2.1, μ.2.2.2.2.2.2.2.1, μ.2.2.2.2.2.2.2.2)) (kk : zin r ∧ zP Γ r M) : zV Γ μ κ pc L [] M := by
  obtain ⟨p, l, e, s, m, args, below, meth, c, D, cA, ad, A, t1, t2, P⟩ := Γ
  obtain ⟨⟨hx, hb, hml, hown, hts⟩, hr, hlk, hK, hA, hSt, hNs⟩ := C
  intro H locs ls hR hP hD hS hz hv
  subst hκ
  exact W.vret hx hb (hr.trans hret) (fun t ht hW => ⟨⟨r, M, kk.1, by rw [hret]; rfl, kk.2, hR, by rw [ht]; exact hP, hD, by rw [ht]; exact hz⟩, hS.F ht⟩) hS.2.2 hd
