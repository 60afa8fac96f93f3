/-! ===== whole numbers for the machine's numbers ===== -/
def iI (x : Int) : Int32 := Int32.ofInt x
def lI (x : Int) : Int64 := Int64.ofInt x
abbrev rI (x : Int) : Prop := -2147483648 ≤ x ∧ x < 2147483648
abbrev rL (x : Int) : Prop := -9223372036854775808 ≤ x ∧ x < 9223372036854775808
theorem iI_toInt {x : Int} (h : rI x) : (iI x).toInt = x := Int32.toInt_ofInt_of_le (by have := h.1; omega) (by have := h.2; omega)
theorem lI_toInt {x : Int} (h : rL x) : (lI x).toInt = x := Int64.toInt_ofInt_of_le (by have := h.1; omega) (by have := h.2; omega)
theorem iI_of (x : Int32) : iI x.toInt = x := Int32.ofInt_toInt x
theorem lI_of (x : Int64) : lI x.toInt = x := Int64.ofInt_toInt x
theorem rI_of (x : Int32) : rI x.toInt := ⟨by have := x.le_toInt; omega, by have := x.toInt_lt; omega⟩
theorem rL_of (x : Int64) : rL x.toInt := ⟨by have := x.le_toInt; omega, by have := x.toInt_lt; omega⟩
theorem iI_add (a b : Int) : iI a + iI b = iI (a + b) := (Int32.ofInt_add a b).symm
theorem iI_sub (a b : Int) : iI a - iI b = iI (a - b) := (Int32.ofInt_sub a b).symm
theorem iI_mul (a b : Int) : iI a * iI b = iI (a * b) := (Int32.ofInt_mul a b).symm
theorem iI_neg (a : Int) : -iI a = iI (-a) := Int32.neg_ofInt
theorem lI_add (a b : Int) : lI a + lI b = lI (a + b) := (Int64.ofInt_add a b).symm
theorem lI_sub (a b : Int) : lI a - lI b = lI (a - b) := (Int64.ofInt_sub a b).symm
theorem lI_mul (a b : Int) : lI a * lI b = lI (a * b) := (Int64.ofInt_mul a b).symm
theorem lI_neg (a : Int) : -lI a = lI (-a) := Int64.neg_ofInt
theorem iI_lt {a b : Int} (ha : rI a) (hb : rI b) : iI a < iI b ↔ a < b := by rw [Int32.lt_iff_toInt_lt, iI_toInt ha, iI_toInt hb]
theorem iI_le {a b : Int} (ha : rI a) (hb : rI b) : iI a ≤ iI b ↔ a ≤ b := by rw [Int32.le_iff_toInt_le, iI_toInt ha, iI_toInt hb]
theorem iI_eq {a b : Int} (ha : rI a) (hb : rI b) : iI a = iI b ↔ a = b := by rw [← Int32.toInt_inj, iI_toInt ha, iI_toInt hb]
theorem lI_lt {a b : Int} (ha : rL a) (hb : rL b) : lI a < lI b ↔ a < b := by rw [Int64.lt_iff_toInt_lt, lI_toInt ha, lI_toInt hb]
theorem lI_eq {a b : Int} (ha : rL a) (hb : rL b) : lI a = lI b ↔ a = b := by rw [← Int64.toInt_inj, lI_toInt ha, lI_toInt hb]
theorem iI_cl {x : Int} (h : rI x) (h0 : 0 ≤ x) : (iI x).toNatClampNeg = x.toNat := by
  have h1 : (0 : Int32) ≤ iI x := by rw [Int32.le_iff_toInt_le, iI_toInt h]; exact h0
  have h2 := Int32.toInt_eq_toNatClampNeg h1
  rw [iI_toInt h] at h2
  omega
theorem iI_in {x n : Int} (h : 0 ≤ x ∧ x < n) (hr : rI x) : vp_in (iI x) n.toNat := by
  unfold vp_in
  rw [iI_cl hr h.1, Int32.lt_iff_toInt_lt, iI_toInt hr]
  intro q
  rcases q with q | q
  · exact absurd h.1 (Int.not_le.mpr q)
  · omega
theorem iI_l {x : Int} (h : rI x) : (iI x).toInt64 = lI x := by
  apply Int64.toInt_inj.mp
  rw [Int32.toInt_toInt64, iI_toInt h, lI_toInt ⟨by omega, by omega⟩]
/-! operations that are bits: told by the machine's own -/
def iand (a b : Int) : Int := (iI a &&& iI b).toInt
def ior (a b : Int) : Int := (iI a ||| iI b).toInt
def ishl (a b : Int) : Int := (iI a <<< (iI b &&& 31)).toInt
def ishr (a b : Int) : Int := (iI a >>> (iI b &&& 31)).toInt
def iushr (a b : Int) : Int := ((iI a).toUInt32 >>> ((iI b).toUInt32 &&& Int32.toUInt32 31)).toInt32.toInt
def idiv (a b : Int) : Int := (iI a / iI b).toInt
def imin (a b : Int) : Int := if b < a then b else a
def imax (a b : Int) : Int := if a < b then b else a
def l2i (x : Int) : Int := (lI x).toInt32.toInt
def land (a b : Int) : Int := (lI a &&& lI b).toInt
def lor (a b : Int) : Int := (lI a ||| lI b).toInt
def lshl (a b : Int) : Int := (lI a <<< ((iI b).toInt64 &&& 63)).toInt
def lshr (a b : Int) : Int := (lI a >>> ((iI b).toInt64 &&& 63)).toInt
def lushr (a b : Int) : Int := ((lI a).toUInt64 >>> ((iI b).toInt64.toUInt64 &&& Int64.toUInt64 63)).toInt64.toInt
theorem rI_imin {a b : Int} (ha : rI a) (hb : rI b) : rI (imin a b) := by unfold imin; split <;> assumption
theorem rI_imax {a b : Int} (ha : rI a) (hb : rI b) : rI (imax a b) := by unfold imax; split <;> assumption
/-! ===== the layout of all cells: the class's 158, then the reference's 40 ===== -/
def kdL : List Nat := [11, 10, 7, 13, 2, 5, 7, 13, 14, 5, 7, 13, 5, 7, 13, 5, 7, 13, 5, 7, 13, 5, 7, 13, 5, 7, 13, 5, 7, 13, 5, 7, 13, 5, 7, 13, 0, 6, 7, 13, 7, 13, 7, 13, 4, 7, 13, 3, 7, 13, 7, 13, 7, 13, 9, 15, 8, 4, 7, 13, 4, 7, 13, 7, 13, 8, 4, 7, 13, 4, 7, 13, 8, 4, 7, 13, 4, 7, 13, 8, 4, 7, 13, 4, 7, 13, 8, 4, 7, 13, 4, 7, 13, 8, 4, 7, 13, 4, 7, 13, 8, 4, 7, 13, 4, 7, 13, 8, 4, 7, 13, 4, 7, 13, 8, 4, 7, 13, 4, 7, 13, 8, 4, 7, 13, 4, 7, 13, 8, 4, 7, 13, 4, 7, 13, 8, 4, 7, 13, 4, 7, 13, 8, 4, 7, 13, 4, 7, 13, 1, 7, 13, 7, 13, 7, 13, 7, 13, 12, 13, 13, 13, 13, 13, 13, 13, 13, 13, 13, 13, 13, 13, 13, 13, 13, 13, 13, 13, 13, 13, 13, 13, 13, 13, 13, 13, 13, 13, 13, 13, 13, 13, 13, 13, 13, 13, 13, 13]
def lnL : List Int := [0, 0, 0, 300, 0, 0, 0, 40, 8, 0, 0, 40, 0, 0, 40, 0, 0, 40, 0, 0, 40, 0, 0, 40, 0, 0, 40, 0, 0, 40, 0, 0, 40, 0, 0, 40, 0, 0, 0, 100, 0, 1024, 0, 10, 0, 0, 80, 0, 0, 100, 0, 6, 0, 6, 0, 12, 0, 0, 0, 80, 0, 0, 80, 0, 10, 0, 0, 0, 80, 0, 0, 80, 0, 0, 0, 80, 0, 0, 80, 0, 0, 0, 80, 0, 0, 80, 0, 0, 0, 80, 0, 0, 80, 0, 0, 0, 80, 0, 0, 80, 0, 0, 0, 80, 0, 0, 80, 0, 0, 0, 80, 0, 0, 80, 0, 0, 0, 80, 0, 0, 80, 0, 0, 0, 80, 0, 0, 80, 0, 0, 0, 80, 0, 0, 80, 0, 0, 0, 80, 0, 0, 80, 0, 0, 0, 80, 0, 0, 80, 0, 0, 1000, 0, 10, 0, 10, 0, 10, 0, 10, 10, 10, 8, 80, 80, 80, 80, 300, 20, 20, 20, 20, 20, 20, 20, 2, 2, 10, 100, 1024, 10, 10, 10, 10, 10, 12, 12, 12, 12, 120, 10, 200, 200, 200, 200, 200, 10, 10]
def kd (a : Int) : Nat := if a < 0 then 99 else kdL.getD a.toNat 99
def ln (a : Int) : Int := if a < 0 then 0 else lnL.getD a.toNat 0
def nf (k : Nat) : Nat := ([4, 7, 4, 6, 3, 2, 3, 1, 5, 5, 4, 8, 53] : List Nat).getD k 0
def isr (k i : Nat) : Bool := (([[false, false, false, false], [true, true, true, true, false, false, false], [true, true, true, false], [true, true, true, false, false, false], [true, false, false], [true, false], [true, true, true], [true], [true, true, false, false, false], [true, true, true, false, false], [true, false, false, false], [true, true, true, true, true, true, true, true], [true, true, true, true, true, true, true, true, false, false, false, false, false, false, true, false, false, false, true, true, true, true, true, true, true, true, true, true, true, true, true, true, true, true, true, true, true, true, true, true, true, false, false, true, true, true, true, true, false, false, false, true, true]] : List (List Bool)).getD k []).getD i false
def rf1 : List Int := [150, 152, 154, 156, 0, 0, 0]
def rf2 : List Int := [5, 8, 9, 0]
def rf3 : List Int := [48, 50, 52, 0, 0, 0]
def rf6 : List Int := [38, 40, 42]
def rf9 : List Int := [55, 56, 63, 0, 0]
def rf10 : List Int := [2, 0, 0, 0]
def rf11 : List Int := [1, 4, 36, 37, 44, 47, 54, 149]
def rf12 : List Int := [159, 160, 161, 162, 163, 164, 165, 166, 0, 0, 0, 0, 0, 0, 167, 0, 0, 0, 168, 169, 170, 171, 172, 173, 174, 175, 176, 177, 178, 179, 180, 181, 182, 183, 184, 185, 186, 187, 188, 189, 190, 0, 0, 191, 192, 193, 194, 195, 0, 0, 0, 196, 197]
def rf (a k : Int) : Int := match kd a with
  | 1 => rf1.getD k.toNat 0
  | 2 => rf2.getD k.toNat 0
  | 3 => rf3.getD k.toNat 0
  | 4 => a + 1
  | 5 => a + 1
  | 6 => rf6.getD k.toNat 0
  | 7 => a + 1
  | 8 => if k = 0 then a + 1 else a + 4
  | 9 => rf9.getD k.toNat 0
  | 10 => rf10.getD k.toNat 0
  | 11 => rf11.getD k.toNat 0
  | 12 => rf12.getD k.toNat 0
  | 14 => 12 + 3 * k
  | 15 => 65 + 7 * k
  | _ => 0
theorem kd_at {a : Int} {c : Nat} (h : kd a = c) (hc : c < 99) : 0 ≤ a ∧ a < 198 := by
  unfold kd at h
  split at h
  · omega
  · refine ⟨by omega, ?_⟩
    rcases Nat.lt_or_ge a.toNat 198 with q | q
    · omega
    · rw [List.getD_eq_getElem?_getD, List.getElem?_eq_none (by rw [show kdL.length = 198 from by decide +kernel]; exact q)] at h
      simp at h
      omega
theorem ln_all : ∀ n : Nat, n < 198 → rI (lnL.getD n 0) ∧ 0 ≤ lnL.getD n 0 := by decide +kernel
theorem ln_r (a : Int) : rI (ln a) ∧ 0 ≤ ln a := by
  unfold ln
  split
  · decide
  · rcases Nat.lt_or_ge a.toNat 198 with q | q
    · exact ln_all _ q
    · rw [List.getD_eq_getElem?_getD, List.getElem?_eq_none (by rw [show lnL.length = 198 from by decide +kernel]; exact q)]
      decide
theorem kd_all4 : ∀ n : Nat, n < 198 → (kdL.getD n 99 = 4 → kdL.getD (n + 1) 99 = 7) ∧ (kdL.getD n 99 = 5 → kdL.getD (n + 1) 99 = 7) ∧ (kdL.getD n 99 = 7 → kdL.getD (n + 1) 99 = 13) ∧ (kdL.getD n 99 = 8 → kdL.getD (n + 1) 99 = 4 ∧ kdL.getD (n + 4) 99 = 4) := by decide +kernel
theorem kd_nat (a : Int) (h : 0 ≤ a) : kd a = kdL.getD a.toNat 99 := by unfold kd; rw [if_neg (by omega)]
theorem k4 {a : Int} (h : kd a = 4) : kd (a + 1) = 7 := by
  have h1 := kd_at h (by decide)
  rw [kd_nat _ h1.1] at h
  rw [kd_nat _ (by omega), show (a + 1).toNat = a.toNat + 1 by omega]
  exact (kd_all4 a.toNat (by omega)).1 h
theorem k5 {a : Int} (h : kd a = 5) : kd (a + 1) = 7 := by
  have h1 := kd_at h (by decide)
  rw [kd_nat _ h1.1] at h
  rw [kd_nat _ (by omega), show (a + 1).toNat = a.toNat + 1 by omega]
  exact (kd_all4 a.toNat (by omega)).2.1 h
theorem k7 {a : Int} (h : kd a = 7) : kd (a + 1) = 13 := by
  have h1 := kd_at h (by decide)
  rw [kd_nat _ h1.1] at h
  rw [kd_nat _ (by omega), show (a + 1).toNat = a.toNat + 1 by omega]
  exact (kd_all4 a.toNat (by omega)).2.2.1 h
theorem k8 {a : Int} (h : kd a = 8) : kd (a + 1) = 4 ∧ kd (a + 4) = 4 := by
  have h1 := kd_at h (by decide)
  rw [kd_nat _ h1.1] at h
  have h2 := (kd_all4 a.toNat (by omega)).2.2.2 h
  rw [kd_nat _ (by omega), show (a + 1).toNat = a.toNat + 1 by omega, kd_nat _ (by omega), show (a + 4).toNat = a.toNat + 4 by omega]
  exact h2
theorem rf4 {a : Int} (h : kd a = 4) : rf a 0 = a + 1 := by simp [rf, h]
theorem rf5 {a : Int} (h : kd a = 5) : rf a 0 = a + 1 := by simp [rf, h]
theorem rf7 {a : Int} (h : kd a = 7) : rf a 0 = a + 1 := by simp [rf, h]
theorem rf80 {a : Int} (h : kd a = 8) : rf a 0 = a + 1 := by simp [rf, h]
theorem rf81 {a : Int} (h : kd a = 8) : rf a 1 = a + 4 := by simp [rf, h]
/-- a picture's cells: 12, 15 .. 33; a scene's: 65, 72 .. 142 -/
theorem kd_fig {i : Int} (h : 0 ≤ i ∧ i < 8) : kd (12 + 3 * i) = 5 := by
  obtain ⟨n, rfl⟩ : ∃ n : Nat, i = n := ⟨i.toNat, by omega⟩
  have h2 : ∀ n : Nat, n < 8 → kd (12 + 3 * (n : Int)) = 5 := by decide +kernel
  exact h2 n (by omega)
theorem kd_scn {i : Int} (h : 0 ≤ i ∧ i < 12) : kd (65 + 7 * i) = 8 := by
  obtain ⟨n, rfl⟩ : ∃ n : Nat, i = n := ⟨i.toNat, by omega⟩
  have h2 : ∀ n : Nat, n < 12 → kd (65 + 7 * (n : Int)) = 8 := by decide +kernel
  exact h2 n (by omega)
theorem rf14 {i : Int} : rf 8 i = 12 + 3 * i := by simp [rf, show kd 8 = 14 from by decide +kernel]
theorem rf15 {i : Int} : rf 55 i = 65 + 7 * i := by simp [rf, show kd 55 = 15 from by decide +kernel]
def up (I : Int → Int → Int) (a k v : Int) : Int → Int → Int := fun b j => if b = a ∧ j = k then v else I b j
