/-! ===== squares, ways, the least way ===== -/
theorem sq_le {x B : Int} (h1 : -B ≤ x) (h2 : x ≤ B) : 0 ≤ x * x ∧ x * x ≤ B * B := by
  rcases Int.le_total 0 x with h | h
  · exact ⟨Int.mul_nonneg h h, Int.mul_le_mul h2 h2 h (by omega)⟩
  · rw [← Int.neg_mul_neg]
    exact ⟨Int.mul_nonneg (by omega) (by omega), Int.mul_le_mul (by omega) (by omega) (by omega) (by omega)⟩
theorem sq400 {x : Int} (h : -400 ≤ x ∧ x ≤ 400) : 0 ≤ x * x ∧ x * x ≤ 160000 := sq_le (B := 400) h.1 h.2
theorem sq_comm (a b : Int) : (a - b) * (a - b) = (b - a) * (b - a) := by
  rw [← Int.neg_mul_neg, Int.neg_sub]
theorem pic_size {I : sk_S} (h : Inv I) {f : Int} (hf : -1 ≤ f ∧ f < I 4 3) : 0 ≤ I (pa f) 1 ∧ I (pa f) 1 ≤ 10 := by
  unfold pa
  split
  · exact h.1.2.1
  · have := (h.2.1.2.2 f (by omega) hf.2).2.1
    unfold rg at this
    omega
theorem pic_top {I : sk_S} (h : Inv I) : 0 ≤ I 4 3 ∧ I 4 3 ≤ 8 := h.2.1.2.1
theorem pc_rg {I : sk_S} (h : Inv I) {f i c : Int} (hf : -1 ≤ f ∧ f < I 4 3) (hi : 0 ≤ i ∧ i < I (pa f) 1) (hc : 0 ≤ c ∧ c < 3) : -200 ≤ pc I f i c ∧ pc I f i c ≤ 200 := by
  unfold pc
  unfold pa at *
  by_cases q : f < 0
  · rw [if_pos q] at *
    have k := h.1.2.2 i hi.1 hi.2
    unfold rg at k
    rw [show (5 : Int) + 2 = 7 from rfl]
    rcases (by omega : c = 0 ∨ c = 1 ∨ c = 2) with rfl | rfl | rfl <;> omega
  · rw [if_neg q] at *
    have k := (h.2.1.2.2 f (by omega) hf.2).2.2 i hi.1 hi.2
    unfold rg at k
    rw [show 12 + 3 * f + 2 = 14 + 3 * f by omega]
    rcases (by omega : c = 0 ∨ c = 1 ∨ c = 2) with rfl | rfl | rfl <;> omega
/-- the square of the way from place i at p to place j at q -/
def wv (I : sk_S) (p q i j : Int) : Int := (I (p + 2) (i * 4 + 0) - I (q + 2) (j * 4 + 0)) * (I (p + 2) (i * 4 + 0) - I (q + 2) (j * 4 + 0)) + (I (p + 2) (i * 4 + 1) - I (q + 2) (j * 4 + 1)) * (I (p + 2) (i * 4 + 1) - I (q + 2) (j * 4 + 1)) + (I (p + 2) (i * 4 + 2) - I (q + 2) (j * 4 + 2)) * (I (p + 2) (i * 4 + 2) - I (q + 2) (j * 4 + 2))
theorem wv_sym (I : sk_S) (p q i j : Int) : wv I p q i j = wv I q p j i := by
  unfold wv
  rw [sq_comm (I (p + 2) (i * 4 + 0)), sq_comm (I (p + 2) (i * 4 + 1)), sq_comm (I (p + 2) (i * 4 + 2))]
def near400 (I : sk_S) (p q i j : Int) : Prop := ∀ c : Int, 0 ≤ c → c < 3 → -400 ≤ I (p + 2) (i * 4 + c) - I (q + 2) (j * 4 + c) ∧ I (p + 2) (i * 4 + c) - I (q + 2) (j * 4 + c) ≤ 400
theorem wv_rg {I : sk_S} {p q i j : Int} (h : near400 I p q i j) : 0 ≤ wv I p q i j ∧ wv I p q i j ≤ 480000 := by
  have h0 := sq400 (h 0 (by omega) (by omega))
  have h1 := sq400 (h 1 (by omega) (by omega))
  have h2 := sq400 (h 2 (by omega) (by omega))
  unfold wv
  omega
theorem near_of {I : sk_S} (h : Inv I) {f g i j : Int} (hf : -1 ≤ f ∧ f < I 4 3) (hg : -1 ≤ g ∧ g < I 4 3) (hi : 0 ≤ i ∧ i < I (pa f) 1) (hj : 0 ≤ j ∧ j < I (pa g) 1) : near400 I (pa f) (pa g) i j := fun c c1 c2 => by
  have a := pc_rg h hf hi ⟨c1, c2⟩
  have b := pc_rg h hg hj ⟨c1, c2⟩
  unfold pc at a b
  omega
theorem s_way {p q i j : Int} {Q : Int → sk_S → Prop} {I : sk_S} (hp : kd p = 5) (hq : kd q = 5) (hi : 0 ≤ i ∧ i < 10) (hj : 0 ≤ j ∧ j < 10) (hn : near400 I p q i j) (h : Q (wv I p q i j) I) : M_Places_way p i q j Q I := by
  have lp : ln (p + 1 + 1) = 40 := by rw [show p + 1 + 1 = p + 2 by omega]; exact ln5 hp
  have lq : ln (q + 1 + 1) = 40 := by rw [show q + 1 + 1 = q + 2 by omega]; exact ln5 hq
  have h0 := hn 0 (by omega) (by omega)
  have h1 := hn 1 (by omega) (by omega)
  have h2 := hn 2 (by omega) (by omega)
  have s0 := sq400 h0
  have s1 := sq400 h1
  have s2 := sq400 h2
  have ep : p + 1 + 1 = p + 2 := by omega
  have eq : q + 1 + 1 = q + 2 := by omega
  unfold wv at h
  intro X hX
  refine hX _ _ _ (bF (by decide) ⟨by omega, s_Row_at (by rw [lp]; omega) ⟨by omega, s_Row_at (by rw [lq]; omega) ⟨by rw [ep, eq]; omega, nm ⟨by rw [ep, eq]; omega, nm ⟨by omega, nm ?_⟩⟩⟩⟩⟩)
  rw [show (0 : Int) + 1 = 1 from rfl]
  refine hX _ _ _ (bF (by decide) ⟨by omega, s_Row_at (by rw [lp]; omega) ⟨by omega, s_Row_at (by rw [lq]; omega) ⟨by rw [ep, eq]; omega, nm ⟨by rw [ep, eq]; omega, nm ⟨by omega, nm ?_⟩⟩⟩⟩⟩)
  rw [show (1 : Int) + 1 = 2 from rfl]
  refine hX _ _ _ (bF (by decide) ⟨by omega, s_Row_at (by rw [lp]; omega) ⟨by omega, s_Row_at (by rw [lq]; omega) ⟨by rw [ep, eq]; omega, nm ⟨by rw [ep, eq]; omega, nm ⟨by omega, nm ?_⟩⟩⟩⟩⟩)
  refine hX _ _ _ (bT (by decide) ?_)
  rw [ep, eq, Int.zero_add]
  exact h
/-- the least of all pairs -/
def isMin (w : Int → Int → Int) (n m : Int) : Prop := (∀ i j : Int, 0 ≤ i → i < j → j < n → m ≤ w i j) ∧ ∃ i j : Int, 0 ≤ i ∧ i < j ∧ j < n ∧ w i j = m
theorem isMin.one {w : Int → Int → Int} {n m m' : Int} (h : isMin w n m) (g : isMin w n m') : m = m' := by
  obtain ⟨h1, i, j, a, b, c, e⟩ := h
  obtain ⟨g1, i', j', a', b', c', e'⟩ := g
  have := h1 i' j' a' b' c'
  have := g1 i j a b c
  omega
theorem s_leastWay {p : Int} {Q : Int → sk_S → Prop} {I : sk_S} (hp : kd p = 5) (hs : I p 1 ≤ 10) (hn : ∀ i j : Int, 0 ≤ i → i < j → j < I p 1 → near400 I p p i j)
    (h : ∀ m : Int, (m = 1000000 ∧ I p 1 < 2) ∨ (isMin (wv I p p) (I p 1) m ∧ 0 ≤ m ∧ m ≤ 480000) → Q m I) : M_Places_leastWay p Q I := by
  intro X hX
  generalize hN : I p 1 = n at hn h hs
  -- visited so far: all pairs ahead of (i, j)
  have key : ∀ (r : Nat) (i m : Int), i + r = max n 0 → 0 ≤ i → ((m = 1000000 ∧ ¬ ∃ a b : Int, 0 ≤ a ∧ a < i ∧ a < b ∧ b < n) ∨ ((∀ a b : Int, 0 ≤ a → a < i → a < b → b < n → m ≤ wv I p p a b) ∧ (∃ a b : Int, 0 ≤ a ∧ a < b ∧ b < n ∧ wv I p p a b = m) ∧ 0 ≤ m ∧ m ≤ 480000)) → X m i I := by
    intro r
    induction r with
    | zero =>
      intro i m h1 h2 h3
      refine hX _ _ _ (bT (by omega) (h m ?_))
      rcases h3 with h3 | h3
      · refine Or.inl ⟨h3.1, ?_⟩
        rcases Int.lt_or_le n 2 with q | q
        · exact q
        · exact absurd ⟨0, 1, by omega, by omega, by omega, by omega⟩ h3.2
      · exact Or.inr ⟨⟨fun a b q1 q2 q3 => h3.1 a b q1 (by omega) q2 q3, h3.2.1⟩, h3.2.2⟩
    | succ r ih =>
      intro i m h1 h2 h3
      refine hX _ _ _ (bF (by omega) ⟨by omega, nm ?_⟩)
      intro Y hY
      have key2 : ∀ (t : Nat) (j m : Int), j + t = n → i < j → ((m = 1000000 ∧ ¬ ∃ a b : Int, 0 ≤ a ∧ (a < i ∨ (a = i ∧ b < j)) ∧ a < b ∧ b < n) ∨ ((∀ a b : Int, 0 ≤ a → (a < i ∨ (a = i ∧ b < j)) → a < b → b < n → m ≤ wv I p p a b) ∧ (∃ a b : Int, 0 ≤ a ∧ a < b ∧ b < n ∧ wv I p p a b = m) ∧ 0 ≤ m ∧ m ≤ 480000)) → Y m j I := by
        intro t
        induction t with
        | zero =>
          intro j m k1 k2 k3
          refine hY _ _ _ (bT (by omega) ⟨by omega, nm (ih (i + 1) m (by omega) (by omega) ?_)⟩)
          rcases k3 with k3 | k3
          · exact Or.inl ⟨k3.1, fun ⟨a, b, q1, q2, q3, q4⟩ => k3.2 ⟨a, b, q1, by omega, q3, q4⟩⟩
          · exact Or.inr ⟨fun a b q1 q2 q3 q4 => k3.1 a b q1 (by omega) q3 q4, k3.2⟩
        | succ t ih2 =>
          intro j m k1 k2 k3
          have w := wv_rg (hn i j h2 k2 (by omega))
          refine hY _ _ _ (bF (by omega) (s_way hp hp (by omega) (by omega) (hn i j h2 k2 (by omega)) (nm ⟨by omega, nm (ih2 (j + 1) _ (by omega) (by omega) (Or.inr ?_))⟩)))
          unfold imin
          rcases k3 with k3 | k3
          · rw [if_pos (by omega)]
            refine ⟨fun a b q1 q2 q3 q4 => ?_, ⟨i, j, h2, k2, by omega, rfl⟩, w.1, w.2⟩
            by_cases e : a = i ∧ b = j
            · rw [e.1, e.2]; exact Int.le_refl _
            · exact absurd ⟨a, b, q1, by omega, q3, q4⟩ k3.2
          · by_cases c : wv I p p i j < m
            · rw [if_pos c]
              refine ⟨fun a b q1 q2 q3 q4 => ?_, ⟨i, j, h2, k2, by omega, rfl⟩, w.1, w.2⟩
              by_cases e : a = i ∧ b = j
              · rw [e.1, e.2]; exact Int.le_refl _
              · have := k3.1 a b q1 (by omega) q3 q4
                omega
            · rw [if_neg c]
              refine ⟨fun a b q1 q2 q3 q4 => ?_, k3.2⟩
              by_cases e : a = i ∧ b = j
              · rw [e.1, e.2]; omega
              · exact k3.1 a b q1 (by omega) q3 q4
      refine key2 (n - (i + 1)).toNat (i + 1) m (by omega) (by omega) ?_
      rcases h3 with h3 | h3
      · exact Or.inl ⟨h3.1, fun ⟨a, b, q1, q2, q3, q4⟩ => h3.2 ⟨a, b, q1, by omega, q3, q4⟩⟩
      · exact Or.inr ⟨fun a b q1 q2 q3 q4 => h3.1 a b q1 (by omega) q3 q4, h3.2⟩
  exact key (max n 0).toNat 0 1000000 (by omega) (by omega) (Or.inl ⟨rfl, fun ⟨a, b, q1, q2, _⟩ => by omega⟩)
/-- the reference's square between two points of all -/
def wm (I : sk_S) (a b : Int) : Int := (I 163 a - I 163 b) * (I 163 a - I 163 b) + (I 164 a - I 164 b) * (I 164 a - I 164 b) + (I 165 a - I 165 b) * (I 165 a - I 165 b)
theorem s_apart {a b : Int} {Q : Int → sk_S → Prop} {I : sk_S} (ha : 0 ≤ a ∧ a < 80) (hb : 0 ≤ b ∧ b < 80) (h0 : -400 ≤ I 163 a - I 163 b ∧ I 163 a - I 163 b ≤ 400) (h1 : -400 ≤ I 164 a - I 164 b ∧ I 164 a - I 164 b ≤ 400) (h2 : -400 ≤ I 165 a - I 165 b ∧ I 165 a - I 165 b ≤ 400) (h : Q (wm I a b) I) : M_Mo_apart a b Q I := by
  have s0 := sq400 h0
  have s1 := sq400 h1
  have s2 := sq400 h2
  exact ⟨ha, hb, by omega, by omega, ha, hb, by omega, by omega, ha, hb, by omega, by omega, by omega, h⟩
theorem s_least {f : Int} {Q : Int → sk_S → Prop} {I : sk_S} (h : Inv I) (hf : 0 ≤ f ∧ f < I 4 3) (hQ : ∀ m : Int, (m = -1 ∧ I (12 + 3 * f) 1 < 2) ∨ (isMin (wv I (12 + 3 * f) (12 + 3 * f)) (I (12 + 3 * f) 1) m ∧ 0 ≤ m) → Q m I) : M_Mo_least f Q I := by
  obtain ⟨g1, g2, g3⟩ := h.2.1.2.2 f hf.1 hf.2
  have ht := pic_top h
  unfold rg at g2
  generalize hN : I (12 + 3 * f) 1 = n at *
  have cells : ∀ i : Int, 0 ≤ i → i < n → (I (12 + 3 * f + 2) (i * 4 + 0) = I 163 (10 * f + i) ∧ I (12 + 3 * f + 2) (i * 4 + 1) = I 164 (10 * f + i) ∧ I (12 + 3 * f + 2) (i * 4 + 2) = I 165 (10 * f + i)) ∧ (-200 ≤ I 163 (10 * f + i) ∧ I 163 (10 * f + i) ≤ 200) ∧ (-200 ≤ I 164 (10 * f + i) ∧ I 164 (10 * f + i) ≤ 200) ∧ (0 ≤ I 165 (10 * f + i) ∧ I 165 (10 * f + i) ≤ 200) := fun i a b => by
    have := g3 i a b
    rw [show 12 + 3 * f + 2 = 14 + 3 * f by omega]
    exact ⟨⟨this.1.1, this.1.2.1, this.1.2.2.1⟩, this.2.1, this.2.2.1, this.2.2.2.1⟩
  have weq : ∀ i j : Int, 0 ≤ i → i < n → 0 ≤ j → j < n → wm I (10 * f + i) (10 * f + j) = wv I (12 + 3 * f) (12 + 3 * f) i j := fun i j a b c d => by
    unfold wm wv
    rw [(cells i a b).1.1, (cells i a b).1.2.1, (cells i a b).1.2.2, (cells j c d).1.1, (cells j c d).1.2.1, (cells j c d).1.2.2]
  have wpos : ∀ i j : Int, 0 ≤ i → i < n → 0 ≤ j → j < n → 0 ≤ wm I (10 * f + i) (10 * f + j) := fun i j a b c d => by
    have x := (cells i a b).2
    have y := (cells j c d).2
    have s0 := sq400 (x := I 163 (10 * f + i) - I 163 (10 * f + j)) (by omega)
    have s1 := sq400 (x := I 164 (10 * f + i) - I 164 (10 * f + j)) (by omega)
    have s2 := sq400 (x := I 165 (10 * f + i) - I 165 (10 * f + j)) (by omega)
    unfold wm
    omega
  intro X hX
  have key : ∀ (r : Nat) (i m : Int), i + r = n → 0 ≤ i → ((m = -1 ∧ i < 2) ∨ ((∀ a b : Int, 0 ≤ a → a < b → b < i → m ≤ wv I (12 + 3 * f) (12 + 3 * f) a b) ∧ (∃ a b : Int, 0 ≤ a ∧ a < b ∧ b < n ∧ wv I (12 + 3 * f) (12 + 3 * f) a b = m) ∧ 0 ≤ m)) → X m i I := by
    intro r
    induction r with
    | zero =>
      intro i m h1 h2 h3
      refine hX _ _ _ ⟨by omega, bT (by omega) (hQ m ?_)⟩
      rcases h3 with h3 | h3
      · exact Or.inl ⟨h3.1, by omega⟩
      · exact Or.inr ⟨⟨fun a b q1 q2 q3 => h3.1 a b q1 q2 (by omega), h3.2.1⟩, h3.2.2⟩
    | succ r ih =>
      intro i m h1 h2 h3
      refine hX _ _ _ ⟨by omega, bF (by omega) ?_⟩
      intro Y hY
      have key2 : ∀ (t : Nat) (j m : Int), j + t = i → 0 ≤ j → ((m = -1 ∧ i < 2 ∧ j = 0) ∨ ((∀ a b : Int, 0 ≤ a → a < b → (b < i ∨ (b = i ∧ a < j)) → m ≤ wv I (12 + 3 * f) (12 + 3 * f) a b) ∧ (∃ a b : Int, 0 ≤ a ∧ a < b ∧ b < n ∧ wv I (12 + 3 * f) (12 + 3 * f) a b = m) ∧ 0 ≤ m)) → Y m j I := by
        intro t
        induction t with
        | zero =>
          intro j m k1 k2 k3
          refine hY _ _ _ (bT (by omega) ⟨by omega, nm (ih (i + 1) m (by omega) (by omega) ?_)⟩)
          rcases k3 with k3 | k3
          · exact Or.inl ⟨k3.1, by omega⟩
          · exact Or.inr ⟨fun a b q1 q2 q3 => k3.1 a b q1 q2 (by omega), k3.2⟩
        | succ t ih2 =>
          intro j m k1 k2 k3
          have x := (cells i h2 (by omega)).2
          have y := (cells j k2 (by omega)).2
          have wp := wpos i j h2 (by omega) k2 (by omega)
          have we := weq i j h2 (by omega) k2 (by omega)
          rw [wv_sym] at we
          refine hY _ _ _ (bF (by omega) ⟨by omega, by omega, s_apart (by omega) (by omega) (by omega) (by omega) (by omega) ?_⟩)
          have take : (∀ a b : Int, 0 ≤ a → a < b → (b < i ∨ (b = i ∧ a < j)) → wm I (10 * f + i) (10 * f + j) ≤ wv I (12 + 3 * f) (12 + 3 * f) a b) → Y (wm I (10 * f + i) (10 * f + j)) (j + 1) I := fun q => by
            refine ih2 (j + 1) _ (by omega) (by omega) (Or.inr ⟨fun a b q1 q2 q3 => ?_, ⟨j, i, k2, by omega, by omega, we.symm⟩, wp⟩)
            by_cases e : b = i ∧ a = j
            · rw [e.1, e.2, we]; exact Int.le_refl _
            · exact q a b q1 q2 (by omega)
          refine ⟨fun c => ⟨by omega, nm (take ?_)⟩, fun c => ⟨fun c2 => ⟨by omega, nm (ih2 (j + 1) m (by omega) (by omega) ?_)⟩, fun c2 => ⟨by omega, nm (take ?_)⟩⟩⟩
          · rcases k3 with k3 | k3
            · intro a b q1 q2 q3; omega
            · omega
          · rcases k3 with k3 | k3
            · omega
            · refine Or.inr ⟨fun a b q1 q2 q3 => ?_, k3.2⟩
              by_cases e : b = i ∧ a = j
              · rw [e.1, e.2, ← we]; exact c2
              · exact k3.1 a b q1 q2 (by omega)
          · rcases k3 with k3 | k3
            · omega
            · intro a b q1 q2 q3
              have := k3.1 a b q1 q2 q3
              omega
      refine key2 i.toNat 0 m (by omega) (by omega) ?_
      rcases h3 with h3 | h3
      · exact Or.inl ⟨h3.1, h3.2, rfl⟩
      · exact Or.inr ⟨fun a b q1 q2 q3 => h3.1 a b q1 q2 (by omega), h3.2⟩
  exact key n.toNat 0 (-1) (by omega) (by omega) (Or.inl ⟨rfl, by omega⟩)
