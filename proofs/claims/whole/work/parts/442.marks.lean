/-! ===== first: where the marks stand ===== -/
def cur (I : sk_S) (n f last r : Int) : Prop := (r = -1 ∧ ∀ j : Int, 0 ≤ j → j < n → I 191 j = f → I 192 j ≤ last) ∨ (0 ≤ r ∧ r < n ∧ I 191 r = f ∧ last < I 192 r ∧ ∀ j : Int, 0 ≤ j → j < r → I 191 j = f → I 192 j ≤ last)
/-- the mark of a flyer at a tick -/
def mk (I : sk_S) (n f t r : Int) : Prop := (r = -1 ∧ ∀ j : Int, 0 ≤ j → j < n → I 191 j = f → I 192 j ≠ t) ∨ (0 ≤ r ∧ r < n ∧ I 191 r = f ∧ I 192 r = t)
/-- the least tick behind -/
def lt' (I : sk_S) (n last t : Int) : Prop := (t = 1000 ∧ ∀ k : Int, 0 ≤ k → k < n → I 192 k ≤ last) ∨ (t < 1000 ∧ last < t ∧ (∃ k : Int, 0 ≤ k ∧ k < n ∧ I 192 k = t) ∧ ∀ k : Int, 0 ≤ k → k < n → last < I 192 k → t ≤ I 192 k)
def incr (I : sk_S) (n : Int) : Prop := ∀ j k : Int, 0 ≤ j → j < k → k < n → I 191 j = I 191 k → I 192 j < I 192 k
theorem mk_one {I : sk_S} {n f t r r' : Int} (hi : incr I n) (h : mk I n f t r) (g : mk I n f t r') : r = r' := by
  rcases h with h | h
  · rcases g with g | g
    · omega
    · exact absurd g.2.2.2 (h.2 r' g.1 g.2.1 g.2.2.1)
  · rcases g with g | g
    · exact absurd h.2.2.2 (g.2 r h.1 h.2.1 h.2.2.1)
    · rcases Int.lt_or_le r r' with q | q
      · have := hi r r' h.1 q g.2.1 (by rw [h.2.2.1, g.2.2.1])
        omega
      · rcases Int.lt_or_le r' r with q2 | q2
        · have := hi r' r g.1 q2 h.2.1 (by rw [h.2.2.1, g.2.2.1])
          omega
        · omega
theorem mk_ex (I : sk_S) (n f t : Int) : ∃ r, mk I n f t r := by
  by_cases c : ∃ j : Int, 0 ≤ j ∧ j < n ∧ I 191 j = f ∧ I 192 j = t
  · obtain ⟨j, h⟩ := c
    exact ⟨j, Or.inr h⟩
  · exact ⟨-1, Or.inl ⟨rfl, fun j a b d e => c ⟨j, a, b, d, e⟩⟩⟩
theorem mk_at {I : sk_S} {n f t r : Int} (h : mk I n f t r) : r = -1 ∨ (0 ≤ r ∧ r < n ∧ I 191 r = f ∧ I 192 r = t) := by
  rcases h with h | h
  · exact Or.inl h.1
  · exact Or.inr h
theorem cur_mk {I : sk_S} {n f last t c m : Int} (hi : incr I n) (hc : cur I n f last c) (ht : last < t ∧ ∀ k : Int, 0 ≤ k → k < n → last < I 192 k → t ≤ I 192 k) (hm : mk I n f t m) : (c ≠ -1 ∧ I 192 c = t → m = c) ∧ (¬ (c ≠ -1 ∧ I 192 c = t) → m = -1) := by
  constructor
  · rintro ⟨h1, h2⟩
    rcases hc with hc | hc
    · exact absurd hc.1 h1
    · exact mk_one hi hm (Or.inr ⟨hc.1, hc.2.1, hc.2.2.1, h2⟩)
  · intro h
    rcases hm with hm | hm
    · exact hm.1
    · exfalso
      rcases hc with hc | hc
      · have := hc.2 m hm.1 hm.2.1 hm.2.2.1
        omega
      · have h3 := ht.2 c hc.1 hc.2.1 hc.2.2.2.1
        rcases Int.lt_or_le m c with q | q
        · have := hc.2.2.2.2 m hm.1 q hm.2.2.1
          omega
        · rcases Int.lt_or_le c m with q2 | q2
          · have := hi c m hc.1 q2 hm.2.1 (by rw [hc.2.2.1, hm.2.2.1])
            omega
          · obtain rfl : m = c := by omega
            exact h ⟨by omega, hm.2.2.2⟩
theorem cur_nx {I : sk_S} {n f last t c r : Int} (hi : incr I n) (hc : cur I n f last c) (hlt : last < t) (h : c ≠ -1 ∧ I 192 c = t) (hr : isNx I n f (c + 1) r) : cur I n f t r := by
  rcases hc with hc | hc
  · exact absurd hc.1 h.1
  · have low : ∀ j : Int, 0 ≤ j → j ≤ c → I 191 j = f → I 192 j ≤ t := fun j j1 j2 j3 => by
      by_cases e : j = c
      · subst e; omega
      · have := hc.2.2.2.2 j j1 (by omega) j3
        omega
    rcases hr with hr | hr
    · refine Or.inl ⟨hr.1, fun j j1 j2 j3 => ?_⟩
      by_cases q : j ≤ c
      · exact low j j1 q j3
      · exact absurd j3 (hr.2 j (by omega) j2)
    · refine Or.inr ⟨by omega, hr.2.1, hr.2.2.1, ?_, fun j j1 j2 j3 => ?_⟩
      · have := hi c r hc.1 (by omega) hr.2.1 (by rw [hc.2.2.1, hr.2.2.1])
        omega
      · by_cases q : j ≤ c
        · exact low j j1 q j3
        · exact absurd j3 (hr.2.2.2 j (by omega) j2)
theorem cur_stay {I : sk_S} {n f last t c : Int} (hc : cur I n f last c) (ht : last < t ∧ ∀ k : Int, 0 ≤ k → k < n → last < I 192 k → t ≤ I 192 k) (h : ¬ (c ≠ -1 ∧ I 192 c = t)) : cur I n f t c := by
  rcases hc with hc | hc
  · exact Or.inl ⟨hc.1, fun j j1 j2 j3 => by have := hc.2 j j1 j2 j3; omega⟩
  · have h3 := ht.2 c hc.1 hc.2.1 hc.2.2.2.1
    refine Or.inr ⟨hc.1, hc.2.1, hc.2.2.1, ?_, fun j j1 j2 j3 => by have := hc.2.2.2.2 j j1 j2 j3; omega⟩
    by_cases e : I 192 c = t
    · exact absurd ⟨by omega, e⟩ h
    · omega
/-- the end of the way that begins at a mark -/
theorem end_mk {I : sk_S} {n f t m r e : Int} (hi : incr I n) (hm : 0 ≤ m ∧ m < n ∧ I 191 m = f ∧ I 192 m = t) (hr : isNx I n f (m + 1) r) (he : mk I n f (t + 1) e) : (r ≠ -1 ∧ I 192 r = t + 1 → e = r) ∧ (¬ (r ≠ -1 ∧ I 192 r = t + 1) → e = -1) := by
  constructor
  · rintro ⟨h1, h2⟩
    rcases hr with hr | hr
    · exact absurd hr.1 h1
    · exact mk_one hi he (Or.inr ⟨by omega, hr.2.1, hr.2.2.1, h2⟩)
  · intro h
    rcases he with he | he
    · exact he.1
    · exfalso
      have a : m < e := by
        rcases Int.lt_or_le m e with q | q
        · exact q
        · by_cases c : e = m
          · subst c; omega
          · have := hi e m he.1 (by omega) hm.2.1 (by rw [he.2.2.1, hm.2.2.1])
            omega
      rcases hr with hr | hr
      · exact hr.2 e (by omega) he.2.1 he.2.2.1
      · have b : r ≤ e := by
          rcases Int.lt_or_le e r with q | q
          · exact absurd he.2.2.1 (hr.2.2.2 e (by omega) q)
          · exact q
        have c1 := hi m r hm.1 (by omega) hr.2.1 (by rw [hm.2.2.1, hr.2.2.1])
        by_cases d : r = e
        · subst d; exact h ⟨by omega, he.2.2.2⟩
        · have := hi r e (by omega) (by omega) he.2.1 (by rw [hr.2.2.1, he.2.2.1])
          omega
theorem lt_one {I : sk_S} {n last t t' : Int} (h : lt' I n last t) (g : lt' I n last t') : t = t' := by
  rcases h with h | ⟨h1, h2, ⟨k, k1, k2, k3⟩, h4⟩
  · rcases g with g | ⟨g1, g2, ⟨j, j1, j2, j3⟩, g4⟩
    · omega
    · have := h.2 j j1 j2
      omega
  · rcases g with g | ⟨g1, g2, ⟨j, j1, j2, j3⟩, g4⟩
    · have := g.2 k k1 k2
      omega
    · have a := h4 j j1 j2 (by omega)
      have b := g4 k k1 k2 (by omega)
      omega
/-! how many marks lie behind a tick -/
def cnt (I : sk_S) (last : Int) : Nat → Nat
  | 0 => 0
  | k + 1 => cnt I last k + (if last < I 192 k then 1 else 0)
theorem cnt_le (I : sk_S) (last : Int) : ∀ k : Nat, cnt I last k ≤ k := by
  intro k
  induction k with
  | zero => exact Nat.le_refl _
  | succ k ih =>
    unfold cnt
    split <;> omega
theorem cnt_mono {I : sk_S} {last t : Int} (h : last ≤ t) : ∀ k : Nat, cnt I t k ≤ cnt I last k := by
  intro k
  induction k with
  | zero => exact Nat.le_refl _
  | succ k ih =>
    unfold cnt
    split <;> split <;> omega
theorem cnt_lt {I : sk_S} {last t : Int} (h : last < t) : ∀ k : Nat, (∃ j : Nat, j < k ∧ I 192 j = t) → cnt I t k + 1 ≤ cnt I last k := by
  intro k
  induction k with
  | zero => rintro ⟨j, h1, _⟩; omega
  | succ k ih =>
    rintro ⟨j, h1, h2⟩
    unfold cnt
    by_cases c : j = k
    · subst c
      have := cnt_mono (I := I) (show last ≤ t by omega) j
      rw [if_neg (by omega), if_pos (by omega)]
      omega
    · have := ih ⟨j, by omega, h2⟩
      split <;> split <;> omega
theorem cnt_0 {I : sk_S} {last : Int} : ∀ k : Nat, cnt I last k = 0 → ∀ j : Nat, j < k → I 192 j ≤ last := by
  intro k
  induction k with
  | zero => intro _ j h; omega
  | succ k ih =>
    intro h j hj
    unfold cnt at h
    by_cases c : last < I 192 k
    · rw [if_pos c] at h; omega
    · rw [if_neg c] at h
      by_cases d : j = k
      · subst d; omega
      · exact ih (by omega) j (by omega)
theorem cnt_z {I : sk_S} {last : Int} : ∀ k : Nat, (∀ j : Nat, j < k → I 192 j ≤ last) → cnt I last k = 0 := by
  intro k
  induction k with
  | zero => intro _; rfl
  | succ k ih =>
    intro h
    unfold cnt
    have := h k (by omega)
    rw [if_neg (by omega), ih (fun j hj => h j (by omega))]
/-! who clashes at a tick -/
def rsN (P : Int → Prop) (N : Int → Int → Prop) : Prop := ∀ a : Int, 0 ≤ a → a < 10 → ¬ P a ∧ ∀ b : Int, a < b → b < 10 → ¬ N a b
def rsF (P : Int → Prop) (N : Int → Int → Prop) (x y : Int) : Prop := (0 ≤ x ∧ x < 10) ∧ (∀ a : Int, 0 ≤ a → a < x → ¬ P a ∧ ∀ b : Int, a < b → b < 10 → ¬ N a b) ∧ ((P x ∧ y = -1) ∨ (¬ P x ∧ x < y ∧ y < 10 ∧ N x y ∧ ∀ b : Int, x < b → b < y → ¬ N x b))
theorem rsF_N {P : Int → Prop} {N : Int → Int → Prop} {x y : Int} (h : rsF P N x y) (g : rsN P N) : False := by
  obtain ⟨h1, h2, h3⟩ := h
  have k := g x h1.1 h1.2
  rcases h3 with q | q
  · exact k.1 q.1
  · exact k.2 y q.2.1 q.2.2.1 q.2.2.2.1
theorem rsF_x {P : Int → Prop} {N : Int → Int → Prop} {x y x' y' : Int} (h : rsF P N x y) (g : rsF P N x' y') : x' ≤ x := by
  rcases Int.lt_or_le x x' with q | q
  · exfalso
    have k := g.2.1 x h.1.1 q
    rcases h.2.2 with w | w
    · exact k.1 w.1
    · exact k.2 y w.2.1 w.2.2.1 w.2.2.2.1
  · exact q
theorem rsF_one {P : Int → Prop} {N : Int → Int → Prop} {x y x' y' : Int} (h : rsF P N x y) (g : rsF P N x' y') : x = x' ∧ y = y' := by
  have a := rsF_x h g
  have b := rsF_x g h
  obtain rfl : x = x' := by omega
  refine ⟨rfl, ?_⟩
  rcases h.2.2 with w | w
  · rcases g.2.2 with v | v
    · omega
    · exact absurd w.1 v.1
  · rcases g.2.2 with v | v
    · exact absurd v.1 w.1
    · rcases Int.lt_or_le y y' with q | q
      · exact absurd w.2.2.2.1 (v.2.2.2.2 y w.2.1 q)
      · rcases Int.lt_or_le y' y with q2 | q2
        · exact absurd v.2.2.2.1 (w.2.2.2.2 y' v.2.1 q2)
        · omega
def zo (I : sk_S) (m e : Int) : Prop := nv (I 193 m - I 36 1) (I 194 m - I 36 2) 0 (I 193 e - I 36 1) (I 194 e - I 36 2) 0 (I 36 3 * I 36 3)
def ne' (I : sk_S) (a b a' b' : Int) : Prop := nv (I 193 a - I 193 b) (I 194 a - I 194 b) (I 195 a - I 195 b) (I 193 a' - I 193 b') (I 194 a' - I 194 b') (I 195 a' - I 195 b') (I 36 0 * I 36 0)
def zP (I : sk_S) (nw th : Int → Int) (a : Int) : Prop := 0 ≤ nw a ∧ zo I (nw a) (if 0 ≤ th a then th a else nw a)
def nP (I : sk_S) (nw th : Int → Int) (a b : Int) : Prop := 0 ≤ nw a ∧ 0 ≤ nw b ∧ ne' I (nw a) (nw b) (if 0 ≤ th a ∧ 0 ≤ th b then th a else nw a) (if 0 ≤ th a ∧ 0 ≤ th b then th b else nw b)
