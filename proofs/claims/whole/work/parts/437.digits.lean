/-! ===== part: delays as digits, the best of them ===== -/
def dgt : Nat → Nat → Nat → Nat
  | 0, _, _ => 0
  | k + 1, v, i => if i = k then v % 4 else dgt k (v / 4) i
def Sd : Nat → Nat → Nat
  | 0, _ => 0
  | k + 1, v => Sd k (v / 4) + v % 4
theorem dgt_lt : ∀ k v i : Nat, dgt k v i < 4 := by
  intro k
  induction k with
  | zero => intro v i; exact (by decide : (0 : Nat) < 4)
  | succ k ih =>
    intro v i
    unfold dgt
    split
    · omega
    · exact ih _ _
theorem dgt_top {k v d : Nat} (hd : d < 4) : dgt (k + 1) (4 * v + d) k = d := by
  unfold dgt
  rw [if_pos rfl]
  omega
theorem dgt_low {k v d i : Nat} (hd : d < 4) (hi : i < k) : dgt (k + 1) (4 * v + d) i = dgt k v i := by
  have e : dgt (k + 1) (4 * v + d) i = if i = k then (4 * v + d) % 4 else dgt k ((4 * v + d) / 4) i := rfl
  rw [e, if_neg (by omega), show (4 * v + d) / 4 = v by omega]
theorem Sd_ext {k v d : Nat} (hd : d < 4) : Sd (k + 1) (4 * v + d) = Sd k v + d := by
  have e : Sd (k + 1) (4 * v + d) = Sd k ((4 * v + d) / 4) + (4 * v + d) % 4 := rfl
  rw [e, show (4 * v + d) / 4 = v by omega]
  omega
theorem Sd_le : ∀ k v : Nat, Sd k v ≤ 3 * k := by
  intro k
  induction k with
  | zero => intro v; exact Nat.le_refl _
  | succ k ih =>
    intro v
    have e : Sd (k + 1) v = Sd k (v / 4) + v % 4 := rfl
    have := ih (v / 4)
    omega
def pfx (mm : Int → Int → Int → Prop) (f n k v : Nat) : Prop := (∀ a b : Nat, a < b → b < k → ¬ mm a b ((dgt k v b : Int) - dgt k v a)) ∧ ∀ a b : Nat, a < k → f ≤ b → b < n → ¬ mm a b (0 - (dgt k v a : Int))
def fitK (mm : Int → Int → Int → Prop) (f n k v d : Nat) : Prop := (∀ a : Nat, a < k → ¬ mm a k ((d : Int) - dgt k v a)) ∧ ∀ b : Nat, f ≤ b → b < n → ¬ mm k b (0 - (d : Int))
theorem pf_succ {mm : Int → Int → Int → Prop} {f n k v d : Nat} (hd : d < 4) : pfx mm f n (k + 1) (4 * v + d) ↔ pfx mm f n k v ∧ fitK mm f n k v d := by
  constructor
  · rintro ⟨h1, h2⟩
    refine ⟨⟨fun a b ab bk => ?_, fun a b ak fb bn => ?_⟩, fun a ak => ?_, fun b fb bn => ?_⟩
    · have := h1 a b ab (by omega)
      rwa [dgt_low hd bk, dgt_low hd (by omega)] at this
    · have := h2 a b (by omega) fb bn
      rwa [dgt_low hd ak] at this
    · have := h1 a k ak (by omega)
      rwa [dgt_top hd, dgt_low hd ak] at this
    · have := h2 k b (by omega) fb bn
      rwa [dgt_top hd] at this
  · rintro ⟨⟨h1, h2⟩, h3, h4⟩
    refine ⟨fun a b ab bk => ?_, fun a b ak fb bn => ?_⟩
    · by_cases e : b = k
      · subst e
        rw [dgt_top hd, dgt_low hd ab]
        exact h3 a ab
      · rw [dgt_low hd (by omega), dgt_low hd (by omega)]
        exact h1 a b ab (by omega)
    · by_cases e : a = k
      · subst e
        rw [dgt_top hd]
        exact h4 b fb bn
      · rw [dgt_low hd (by omega)]
        exact h2 a b (by omega) fb bn
theorem pf_up {mm : Int → Int → Int → Prop} {f n k c : Nat} (h : pfx mm f n (k + 1) c) : pfx mm f n k (c / 4) := by
  have e : c = 4 * (c / 4) + c % 4 := by omega
  rw [e] at h
  exact ((pf_succ (by omega)).1 h).1
def Hh (r v : Nat) : Nat := v * 4 ^ r
theorem Hh_0 (v : Nat) : Hh 0 v = v := by
  unfold Hh
  rw [Nat.pow_zero, Nat.mul_one]
theorem Hh_4 (r v : Nat) : Hh (r + 1) v = 4 * Hh r v := by
  unfold Hh
  rw [Nat.pow_succ, ← Nat.mul_assoc, Nat.mul_comm]
theorem Hh_s (r v : Nat) : Hh (r + 1) v = Hh r (4 * v) := by
  rw [Hh_4]
  unfold Hh
  rw [Nat.mul_assoc]
theorem Hh_le (r v : Nat) : Hh r v ≤ Hh r (v + 1) := Nat.mul_le_mul_right _ (Nat.le_succ v)
theorem under {mm : Int → Int → Int → Prop} {f n : Nat} : ∀ (r k v c : Nat), Hh r v ≤ c → c < Hh r (v + 1) → (pfx mm f n (k + r) c → pfx mm f n k v) ∧ Sd k v ≤ Sd (k + r) c := by
  intro r
  induction r with
  | zero =>
    intro k v c h1 h2
    rw [Hh_0] at h1 h2
    obtain rfl : c = v := by omega
    exact ⟨id, Nat.le_refl _⟩
  | succ r ih =>
    intro k v c h1 h2
    rw [Hh_4] at h1 h2
    obtain ⟨i1, i2⟩ := ih k v (c / 4) (by omega) (by omega)
    have e : Sd (k + (r + 1)) c = Sd (k + r) (c / 4) + c % 4 := rfl
    refine ⟨fun h => i1 (pf_up h), by omega⟩
/-- the best of the first codes: its sum and its digits -/
def BB (mm : Int → Int → Int → Prop) (f n hi : Nat) (L : Int) (e : Int → Int) : Prop := (L = 1000 ∧ ∀ c : Nat, c < hi → ¬ pfx mm f n f c) ∨ ∃ c : Nat, c < hi ∧ pfx mm f n f c ∧ (Sd f c : Int) = L ∧ (∀ i : Nat, i < f → e i = dgt f c i) ∧ ∀ c' : Nat, c' < hi → pfx mm f n f c' → Sd f c < Sd f c' ∨ (Sd f c = Sd f c' ∧ c ≤ c')
theorem BB_skip {mm : Int → Int → Int → Prop} {f n lo hi : Nat} {L : Int} {e : Int → Int} (hf : f ≤ 6) (hl : lo ≤ hi) (h : BB mm f n lo L e) (hs : ∀ c : Nat, lo ≤ c → c < hi → pfx mm f n f c → L ≤ Sd f c) : BB mm f n hi L e := by
  rcases h with ⟨h1, h2⟩ | ⟨c, h1, h2, h3, h4, h5⟩
  · refine Or.inl ⟨h1, fun c hc p => ?_⟩
    by_cases q : c < lo
    · exact h2 c q p
    · have := hs c (by omega) hc p
      have := Sd_le f c
      omega
  · refine Or.inr ⟨c, by omega, h2, h3, h4, fun c' hc' p => ?_⟩
    by_cases q : c' < lo
    · exact h5 c' q p
    · have := hs c' (by omega) hc' p
      omega
theorem BB_take {mm : Int → Int → Int → Prop} {f n c : Nat} {L : Int} {e e' : Int → Int} (h : BB mm f n c L e) (hp : pfx mm f n f c) (hL : (Sd f c : Int) < L) (he : ∀ i : Nat, i < f → e' i = dgt f c i) : BB mm f n (c + 1) (Sd f c) e' := by
  refine Or.inr ⟨c, by omega, hp, rfl, he, fun c' hc' p => ?_⟩
  by_cases q : c' = c
  · subst q; exact Or.inr ⟨rfl, Nat.le_refl _⟩
  · rcases h with ⟨h1, h2⟩ | ⟨b, h1, h2, h3, h4, h5⟩
    · exact absurd p (h2 c' (by omega))
    · have := h5 c' (by omega) p
      omega
/-- all of a pass, with such delays: by the first ones and the others -/
theorem fit_all {mm : Int → Int → Int → Prop} {f n c : Nat} {w : Int → Int} (hfn : f ≤ n) (w1 : ∀ i : Nat, i < f → w i = dgt f c i) (w2 : ∀ i : Nat, f ≤ i → i < n → w i = 0) : (∀ a b : Int, 0 ≤ a → a < b → b < n → ¬ mm a b (w b - w a)) ↔ pfx mm f n f c ∧ ∀ a b : Int, (f : Int) ≤ a → a < b → b < n → ¬ mm a b 0 := by
  constructor
  · intro h
    refine ⟨⟨fun a b ab bf => ?_, fun a b af fb bn => ?_⟩, fun a b fa ab bn => ?_⟩
    · have := h a b (by omega) (by omega) (by omega)
      rwa [w1 a (by omega), w1 b bf] at this
    · have := h a b (by omega) (by omega) (by omega)
      rwa [w1 a af, w2 b fb bn] at this
    · have := h a b (by omega) ab bn
      obtain ⟨x, rfl⟩ : ∃ x : Nat, a = x := ⟨a.toNat, by omega⟩
      obtain ⟨y, rfl⟩ : ∃ y : Nat, b = y := ⟨b.toNat, by omega⟩
      rw [w2 x (by omega) (by omega), w2 y (by omega) (by omega)] at this
      exact this
  · rintro ⟨⟨h1, h2⟩, h3⟩ a b a0 ab bn
    obtain ⟨x, rfl⟩ : ∃ x : Nat, a = x := ⟨a.toNat, by omega⟩
    obtain ⟨y, rfl⟩ : ∃ y : Nat, b = y := ⟨b.toNat, by omega⟩
    by_cases q : y < f
    · rw [w1 x (by omega), w1 y q]
      exact h1 x y (by omega) q
    · rw [w2 y (by omega) (by omega)]
      by_cases q2 : x < f
      · rw [w1 x q2]
        exact h2 x y q2 (by omega) (by omega)
      · rw [w2 x (by omega) (by omega)]
        exact h3 x y (by omega) ab bn
