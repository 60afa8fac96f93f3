/-! ===== the least greatest way: what is needed and the first goals ===== -/
def bd (v : Int) : Int :=
  let a := v - iand (iushr v 1) 1431655765
  let b := iand a 858993459 + iand (iushr a 2) 858993459
  let c := iand (b + iushr b 4) 252645135
  c + iushr c 8
theorem b_count3 : ∀ s : Nat, s < 1024 → rI (bd s) ∧ rI (bd s + iushr (bd s) 16) := by decide +kernel
theorem s_bitCount {s : Nat} {Q : Int → sk_S → Prop} {I : sk_S} (hs : s < 1024) (h : Q (pop s) I) : M_bitCount (s : Int) Q I := by
  have h1 := b_count1 s hs
  have h2 := b_count3 s hs
  rw [← b_count0 s hs] at h
  exact ⟨h1.1, nm ⟨h1.2, nm (nm ⟨h2.1, nm ⟨h2.2, nm h⟩⟩)⟩⟩
theorem s_bits {s : Nat} {Q : Int → sk_S → Prop} {I : sk_S} (hs : s < 1024) (h : Q (pop s) I) : M_Mo_bits (s : Int) Q I := by
  intro X hX
  have key : ∀ (n j : Nat), n + j = 10 → X ((List.range j).foldl (fun (m : Nat) j => m + (if s.testBit j = true then 1 else 0)) 0 : Nat) j I := by
    have bd : ∀ j : Nat, (List.range j).foldl (fun (m : Nat) j => m + (if s.testBit j = true then 1 else 0)) 0 ≤ j := by
      intro j
      induction j with
      | zero => exact Nat.le_refl _
      | succ j ih =>
        rw [List.range_succ, List.foldl_append]
        simp only [List.foldl_cons, List.foldl_nil]
        split <;> omega
    intro n
    induction n with
    | zero =>
      intro j hj
      obtain rfl : j = 10 := by omega
      exact hX _ _ _ (bT (by decide) h)
    | succ n ih =>
      intro j hj
      have b := bd j
      have c := ih (j + 1) (by omega)
      have e := b_bit0 s hs j (by omega)
      rw [List.range_succ, List.foldl_append] at c
      simp only [List.foldl_cons, List.foldl_nil] at c
      refine hX _ _ _ (bF (by omega) ⟨?_, nm ⟨by omega, nm ?_⟩⟩)
      · rw [e]; split <;> omega
      · rw [e]
        have e2 : (if s.testBit j = true then (1 : Int) else 0) = ((if s.testBit j = true then 1 else 0 : Nat) : Int) := by split <;> rfl
        rw [e2]
        exact c
  exact key 10 0 rfl
/-- the least over what may still be taken, of the first j -/
def mnf (f : Nat → Bool) (v : Nat → Int) (c : Int) (j : Nat) : Int := (List.range j).foldl (fun m j => if f j = true then m else imin m (v j)) c
theorem mnf_succ (f : Nat → Bool) (v : Nat → Int) (c : Int) (j : Nat) : mnf f v c (j + 1) = if f j = true then mnf f v c j else imin (mnf f v c j) (v j) := by
  unfold mnf
  rw [List.range_succ, List.foldl_append]
  rfl
theorem mnf_cap (f : Nat → Bool) (v : Nat → Int) (c : Int) : ∀ k : Nat, mnf f v c k ≤ c := by
  intro k
  induction k with
  | zero => exact Int.le_refl _
  | succ k ih =>
    rw [mnf_succ]
    unfold imin
    split
    · exact ih
    · split <;> omega
theorem mnf_le (f : Nat → Bool) (v : Nat → Int) (c : Int) : ∀ k j : Nat, j < k → f j = false → mnf f v c k ≤ v j := by
  intro k
  induction k with
  | zero => intro j h; omega
  | succ k ih =>
    intro j h g
    rw [mnf_succ]
    unfold imin
    by_cases e : j = k
    · subst e
      rw [if_neg (by rw [g]; decide)]
      split <;> omega
    · have := ih j (by omega) g
      split
      · exact this
      · split <;> omega
theorem mnf_mem (f : Nat → Bool) (v : Nat → Int) (c : Int) : ∀ k : Nat, mnf f v c k = c ∨ ∃ j, j < k ∧ f j = false ∧ mnf f v c k = v j := by
  intro k
  induction k with
  | zero => exact Or.inl rfl
  | succ k ih =>
    rw [mnf_succ]
    unfold imin
    split
    · rcases ih with h | ⟨j, h1, h2, h3⟩
      · exact Or.inl h
      · exact Or.inr ⟨j, by omega, h2, h3⟩
    · rename_i g
      split
      · exact Or.inr ⟨k, by omega, by simpa using g, rfl⟩
      · rcases ih with h | ⟨j, h1, h2, h3⟩
        · exact Or.inl h
        · exact Or.inr ⟨j, by omega, h2, h3⟩
theorem mnf_at (f : Nat → Bool) (v : Nat → Int) {c : Int} {k : Nat} (h : ∃ j, j < k ∧ f j = false ∧ v j < c) : ∃ j, j < k ∧ f j = false ∧ mnf f v c k = v j := by
  obtain ⟨j, h1, h2, h3⟩ := h
  have := mnf_le f v c k j h1 h2
  rcases mnf_mem f v c k with h | h
  · omega
  · exact h
theorem mnf_caps (f : Nat → Bool) (v : Nat → Int) {c c' : Int} {k : Nat} (h : ∃ j, j < k ∧ f j = false ∧ v j < c ∧ v j < c') : mnf f v c k = mnf f v c' k := by
  obtain ⟨j, h1, h2, h3, h4⟩ := h
  obtain ⟨a, a1, a2, a3⟩ := mnf_at f v ⟨j, h1, h2, h3⟩
  obtain ⟨b, b1, b2, b3⟩ := mnf_at f v ⟨j, h1, h2, h4⟩
  have := mnf_le f v c k b b1 b2
  have := mnf_le f v c' k a a1 a2
  omega
def vN (w : Nat → Nat → Int) (n r set : Nat) (j : Nat) : Int := imax (w (n - (r + 1)) j) (needf w n r (set ||| 2 ^ j))
theorem needf_succ (w : Nat → Nat → Int) (n r set : Nat) : needf w n (r + 1) set = mnf (fun j => set.testBit j) (vN w n r set) 1000000 n := rfl
def Wb (w : Nat → Nat → Int) (n : Nat) : Prop := ∀ i j : Nat, i < n → j < n → 0 ≤ w i j ∧ w i j ≤ 480000
theorem or_lt {n s j : Nat} (hs : s < 2 ^ n) (hj : j < n) : s ||| 2 ^ j < 2 ^ n := Nat.or_lt_two_pow hs (Nat.pow_lt_pow_right (by decide) hj)
theorem lt_1024 {n s : Nat} (hn : n < 11) (hs : s < 2 ^ n) : s < 1024 := Nat.lt_of_lt_of_le hs (Nat.pow_le_pow_right (by decide) (show n ≤ 10 by omega))
theorem pop_or {n s j : Nat} (hn : n < 11) (hs : s < 2 ^ n) (hj : j < n) (hb : s.testBit j = false) : pop (s ||| 2 ^ j) = pop s + 1 ∧ s < s ||| 2 ^ j := b_pop0 s (lt_1024 hn hs) j (by omega) hb
theorem is_free {n s : Nat} (hn : n < 11) (hs : s < 2 ^ n) (hp : pop s < n) : ∃ j, j < n ∧ s.testBit j = false := by
  have h := b_free0 n hn s hs (fun e => by subst e; rw [b_full1 n hn] at hp; omega)
  obtain ⟨j, h1, h2⟩ := List.any_eq_true.mp h
  exact ⟨j, List.mem_range.mp h1, by simpa using h2⟩
theorem imax_rg {a b : Int} (ha : 0 ≤ a ∧ a ≤ 480000) (hb : 0 ≤ b ∧ b ≤ 480000) : 0 ≤ imax a b ∧ imax a b ≤ 480000 := by unfold imax; split <;> assumption
theorem need_rg {w : Nat → Nat → Int} {n : Nat} (hn : n < 11) (hw : Wb w n) : ∀ (r set : Nat), r ≤ n → set < 2 ^ n → pop set = n - r → 0 ≤ needf w n r set ∧ needf w n r set ≤ 480000 := by
  intro r
  induction r with
  | zero => intro set _ _ _; exact ⟨Int.le_refl _, by show (0 : Int) ≤ 480000; decide⟩
  | succ r ih =>
    intro set h1 h2 h3
    have hv : ∀ j, j < n → set.testBit j = false → 0 ≤ vN w n r set j ∧ vN w n r set j ≤ 480000 := fun j hj hb =>
      imax_rg (hw _ _ (by omega) hj) (ih _ (by omega) (or_lt h2 hj) (by rw [(pop_or hn h2 hj hb).1]; omega))
    obtain ⟨j, j1, j2⟩ := is_free hn h2 (by omega)
    have := hv j j1 j2
    obtain ⟨a, a1, a2, a3⟩ := mnf_at (fun j => set.testBit j) (vN w n r set) (c := 1000000) (k := n) ⟨j, j1, j2, by omega⟩
    rw [needf_succ, a3]
    exact hv a a1 a2
theorem vN_rg {w : Nat → Nat → Int} {n : Nat} (hn : n < 11) (hw : Wb w n) {r set j : Nat} (h1 : r + 1 ≤ n) (h2 : set < 2 ^ n) (h3 : pop set = n - (r + 1)) (hj : j < n) (hb : set.testBit j = false) : 0 ≤ vN w n r set j ∧ vN w n r set j ≤ 480000 :=
  imax_rg (hw _ _ (by omega) hj) (need_rg hn hw r _ (by omega) (or_lt h2 hj) (by rw [(pop_or hn h2 hj hb).1]; omega))
/-- the goal that is taken: the first that keeps the least greatest way -/
def gok (w : Nat → Nat → Int) (n i set j : Nat) : Prop := set.testBit j = false ∧ imax (w i j) (needf w n (n - (i + 1)) (set ||| 2 ^ j)) ≤ needf w n n 0
theorem gstep_of {w : Nat → Nat → Int} {n i set j : Nat} (hj : j < n) (h : gok w n i set j) (hm : ∀ k, k < j → ¬ gok w n i set k) : gstep w n i set = j := by
  unfold gstep
  have : (List.range n).find? (fun j => !set.testBit j && decide (imax (w i j) (needf w n (n - (i + 1)) (set ||| 2 ^ j)) ≤ needf w n n 0)) = some j := by
    rw [List.find?_range_eq_some]
    refine ⟨by simp [h.1, h.2], List.mem_range.mpr hj, fun k hk => ?_⟩
    have := hm k hk
    unfold gok at this
    cases hb : set.testBit k
    · simp only [hb, true_and] at this
      simp [this]
    · simp
  rw [this]
  rfl
def gG (w : Nat → Nat → Int) (n i set : Nat) : Prop := set < 2 ^ n ∧ pop set = i ∧ needf w n (n - i) set ≤ needf w n n 0
theorem gG_ex {w : Nat → Nat → Int} {n i set : Nat} (hn : n < 11) (hw : Wb w n) (hi : i < n) (h : gG w n i set) : ∃ j, j < n ∧ gok w n i set j := by
  obtain ⟨h1, h2, h3⟩ := h
  obtain ⟨r, hr⟩ : ∃ r, n - i = r + 1 := ⟨n - i - 1, by omega⟩
  rw [hr, needf_succ] at h3
  obtain ⟨j, j1, j2⟩ := is_free hn h1 (by omega)
  have hv := vN_rg hn hw (r := r) (set := set) (j := j) (by omega) h1 (by omega) j1 j2
  obtain ⟨a, a1, a2, a3⟩ := mnf_at (fun j => set.testBit j) (vN w n r set) (c := 1000000) (k := n) ⟨j, j1, j2, by omega⟩
  refine ⟨a, a1, a2, ?_⟩
  rw [a3] at h3
  unfold vN at h3
  rwa [show n - (r + 1) = i by omega, show r = n - (i + 1) by omega] at h3
theorem least_nat {p : Nat → Prop} : ∀ n : Nat, (∃ j, j < n ∧ p j) → ∃ j, j < n ∧ p j ∧ ∀ k, k < j → ¬ p k := by
  intro n
  induction n with
  | zero => intro ⟨j, h, _⟩; omega
  | succ n ih =>
    intro ⟨j, h1, h2⟩
    by_cases c : ∃ k, k < n ∧ p k
    · obtain ⟨k, k1, k2, k3⟩ := ih c
      exact ⟨k, by omega, k2, k3⟩
    · have : j = n := by
        rcases Nat.lt_or_ge j n with q | q
        · exact absurd ⟨j, q, h2⟩ c
        · omega
      subst this
      exact ⟨j, by omega, h2, fun k hk q => c ⟨k, hk, q⟩⟩
theorem gstep_spec {w : Nat → Nat → Int} {n i set : Nat} (hn : n < 11) (hw : Wb w n) (hi : i < n) (h : gG w n i set) : gstep w n i set < n ∧ gok w n i set (gstep w n i set) ∧ ∀ k, k < gstep w n i set → ¬ gok w n i set k := by
  obtain ⟨j, j1, j2, j3⟩ := least_nat n (gG_ex hn hw hi h)
  rw [gstep_of j1 j2 j3]
  exact ⟨j1, j2, j3⟩
theorem gset_gG {w : Nat → Nat → Int} {n : Nat} (hn : n < 11) (hw : Wb w n) : ∀ i : Nat, i ≤ n → gG w n i (gset w n i) := by
  intro i
  induction i with
  | zero => intro _; exact ⟨Nat.two_pow_pos n, by show pop 0 = 0; decide, by show needf w n (n - 0) 0 ≤ _; exact Int.le_refl _⟩
  | succ i ih =>
    intro hi
    have g := ih (by omega)
    obtain ⟨s1, s2, s3⟩ := gstep_spec hn hw (by omega) g
    refine ⟨or_lt g.1 s1, ?_, ?_⟩
    · show pop (gset w n i ||| 2 ^ gstep w n i (gset w n i)) = _
      rw [(pop_or hn g.1 s1 s2.1).1, g.2.1]
    · have := s2.2
      show needf w n (n - (i + 1)) (gset w n i ||| 2 ^ gstep w n i (gset w n i)) ≤ _
      unfold imax at this
      split at this <;> omega
theorem goalf_lt {w : Nat → Nat → Int} {n i : Nat} (hn : n < 11) (hw : Wb w n) (hi : i < n) : goalf w n i < n := (gstep_spec hn hw hi (gset_gG hn hw i (by omega))).1
