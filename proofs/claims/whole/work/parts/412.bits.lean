/-! ===== sets of goals as bits ===== -/
def pop (s : Nat) : Nat := (List.range 10).foldl (fun m j => m + (if s.testBit j = true then 1 else 0)) 0
theorem b_top : ∀ n : Nat, n < 11 → ishl 1 n - 1 = ((2 ^ n - 1 : Nat) : Int) := by decide +kernel
theorem b_bit0 : ∀ s : Nat, s < 1024 → ∀ j : Nat, j < 10 → iand (ishr s j) 1 = if s.testBit j = true then 1 else 0 := by decide +kernel
theorem b_or0 : ∀ s : Nat, s < 1024 → ∀ j : Nat, j < 10 → ior s (ishl 1 j) = ((s ||| 2 ^ j : Nat) : Int) := by decide +kernel
theorem b_pop0 : ∀ s : Nat, s < 1024 → ∀ j : Nat, j < 10 → s.testBit j = false → pop (s ||| 2 ^ j) = pop s + 1 ∧ s < s ||| 2 ^ j := by decide +kernel
theorem b_full0 : ∀ n : Nat, n < 11 → ∀ s : Nat, s < 2 ^ n → pop s ≤ n ∧ (pop s = n → s = 2 ^ n - 1) := by decide +kernel
theorem b_full1 : ∀ n : Nat, n < 11 → pop (2 ^ n - 1) = n := by decide +kernel
theorem b_free0 : ∀ n : Nat, n < 11 → ∀ s : Nat, s < 2 ^ n → s ≠ 2 ^ n - 1 → (List.range n).any (fun j => !s.testBit j) = true := by decide +kernel
def bc (v : Int) : Int :=
  let a := v - iand (iushr v 1) 1431655765
  let b := iand a 858993459 + iand (iushr a 2) 858993459
  let c := iand (b + iushr b 4) 252645135
  let d := c + iushr c 8
  let e := d + iushr d 16
  iand e 63
theorem b_count0 : ∀ s : Nat, s < 1024 → bc s = pop s := by decide +kernel
abbrev bok (v : Int) : Prop :=
  rI (v - iand (iushr v 1) 1431655765) ∧ rI (iand (v - iand (iushr v 1) 1431655765) 858993459 + iand (iushr (v - iand (iushr v 1) 1431655765) 2) 858993459)
theorem b_count1 : ∀ s : Nat, s < 1024 → bok s := by decide +kernel
