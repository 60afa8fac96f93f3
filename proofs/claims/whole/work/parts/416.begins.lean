/-! ===== the reference begins a pass ===== -/
/-- a picture's coordinate, as the reference holds it -/
def pm (I : sk_S) (f k c : Int) : Int := if c = 0 then (if 0 ≤ f then I 163 (10 * f + k) else I 159 k) else if c = 1 then (if 0 ≤ f then I 164 (10 * f + k) else I 160 k) else (if 0 ≤ f then I 165 (10 * f + k) else 0)
theorem pm_pc {I : sk_S} (h : Inv I) {f k c : Int} (hf : -1 ≤ f ∧ f < I 4 3) (hk : 0 ≤ k ∧ k < I (pa f) 1) (hc : 0 ≤ c ∧ c < 3) : pm I f k c = pc I f k c := by
  unfold pm pc
  unfold pa at *
  by_cases q : f < 0
  · rw [if_pos q] at *
    have g := (h.1.2.2 k hk.1 hk.2).1
    rw [show (5 : Int) + 2 = 7 from rfl, if_neg (show ¬ 0 ≤ f by omega), if_neg (show ¬ 0 ≤ f by omega), if_neg (show ¬ 0 ≤ f by omega)]
    rcases (by omega : c = 0 ∨ c = 1 ∨ c = 2) with rfl | rfl | rfl
    · rw [if_pos rfl]; exact g.1.symm
    · rw [if_neg (by decide), if_pos rfl]; exact g.2.1.symm
    · rw [if_neg (by decide), if_neg (by decide)]; exact g.2.2.1.symm
  · rw [if_neg q] at *
    have g := ((h.2.1.2.2 f (by omega) hf.2).2.2 k hk.1 hk.2).1
    rw [show 12 + 3 * f + 2 = 14 + 3 * f by omega, if_pos (show 0 ≤ f by omega), if_pos (show 0 ≤ f by omega), if_pos (show 0 ≤ f by omega)]
    rcases (by omega : c = 0 ∨ c = 1 ∨ c = 2) with rfl | rfl | rfl
    · rw [if_pos rfl]; exact g.1.symm
    · rw [if_neg (by decide), if_pos rfl]; exact g.2.1.symm
    · rw [if_neg (by decide), if_neg (by decide)]; exact g.2.2.1.symm
theorem pm_cong {I J : sk_S} (h : ∀ a k, 159 ≤ a → a ≤ 165 → J a k = I a k) (f k c : Int) : pm J f k c = pm I f k c := by
  unfold pm
  rw [h 163 _ (by decide) (by decide), h 159 _ (by decide) (by decide), h 164 _ (by decide) (by decide), h 160 _ (by decide) (by decide), h 165 _ (by decide) (by decide)]
theorem s_begins {sl f t ticks : Int} {n : Nat} {Q : sk_S → Prop} {I : sk_S} (hsl : 0 ≤ sl ∧ sl < 2) (hf : -1 ≤ f ∧ f < 8) (ht : -1 ≤ t ∧ t < 8) (hn : n < 11) (en : (if 0 ≤ t then I 162 t else I 158 8) = n)
    (h : ∀ J : sk_S, (∀ a k, ¬ (168 ≤ a ∧ a ≤ 174 ∧ 10 * sl ≤ k ∧ k < 10 * sl + n) → ¬ ((a = 175 ∨ a = 176) ∧ k = sl) → J a k = I a k) → J 175 sl = ticks → J 176 sl = n → (∀ k : Nat, k < n → (∀ c : Int, 0 ≤ c → c < 3 → J (168 + c) (10 * sl + k) = pm I f k c ∧ J (171 + c) (10 * sl + k) = pm I t k c) ∧ J 174 (10 * sl + k) = 0) → Q J) : M_Mo_begins sl f t ticks Q I := by
  have body : L_Mo_begins_38 sl f t n Q 0 (up (up I 175 sl ticks) 176 sl n) := by
    intro X hX
    have key : ∀ (m k : Nat) (J : sk_S), m + k = n → (∀ a j, ¬ (168 ≤ a ∧ a ≤ 174 ∧ 10 * sl ≤ j ∧ j < 10 * sl + n) → ¬ ((a = 175 ∨ a = 176) ∧ j = sl) → J a j = I a j) → J 175 sl = ticks → J 176 sl = n → (∀ i : Nat, i < k → (∀ c : Int, 0 ≤ c → c < 3 → J (168 + c) (10 * sl + i) = pm I f i c ∧ J (171 + c) (10 * sl + i) = pm I t i c) ∧ J 174 (10 * sl + i) = 0) → X k J := by
      intro m
      induction m with
      | zero =>
        intro k J h1 h2 h3 h4 h5
        obtain rfl : k = n := by omega
        exact hX _ _ (bT (by omega) (h J h2 h3 h4 h5))
      | succ m ih =>
        intro k J h1 h2 h3 h4 h5
        have old : ∀ a j, 159 ≤ a → a ≤ 165 → J a j = I a j := fun a j q1 q2 => h2 a j (by omega) (by omega)
        have j260 : ∀ (L : sk_S) (v : Int), (∀ a j, ¬ (168 ≤ a ∧ a ≤ 172 ∧ j = 10 * sl + k) → L a j = J a j) → L 168 (10 * sl + k) = pm I f k 0 → L 169 (10 * sl + k) = pm I f k 1 → L 170 (10 * sl + k) = pm I f k 2 → L 171 (10 * sl + k) = pm I t k 0 → L 172 (10 * sl + k) = pm I t k 1 → v = pm I t k 2 → J_Mo_begins_260 sl f t n k (10 * sl + k) v Q X L := by
          intro L v k0 k1 k2 k3 k4 k5 k6
          refine ⟨by omega, by omega, by omega, nm ?_⟩
          have := ih (k + 1) (up (up L 173 (10 * sl + k) v) 174 (10 * sl + k) 0) (by omega) (fun a j q1 q2 => ?_) ?_ ?_ (fun i hi => ?_)
          · exact this
          · rw [up_o (by omega), up_o (by omega), k0 _ _ (by omega)]; exact h2 a j q1 q2
          · rw [up_o (by omega), up_o (by omega), k0 _ _ (by omega)]; exact h3
          · rw [up_o (by omega), up_o (by omega), k0 _ _ (by omega)]; exact h4
          · by_cases e : i = k
            · subst e
              refine ⟨fun c c1 c2 => ?_, up_h⟩
              rcases (by omega : c = 0 ∨ c = 1 ∨ c = 2) with rfl | rfl | rfl
              · exact ⟨by rw [up_o (by omega), up_o (by omega)]; exact k1, by rw [up_o (by omega), up_o (by omega)]; exact k4⟩
              · exact ⟨by rw [up_o (by omega), up_o (by omega)]; exact k2, by rw [up_o (by omega), up_o (by omega)]; exact k5⟩
              · refine ⟨by rw [up_o (by omega), up_o (by omega)]; exact k3, ?_⟩
                rw [up_o (by omega), show (171 : Int) + 2 = 173 from rfl, up_h]
                exact k6
            · obtain ⟨g1, g2⟩ := h5 i (by omega)
              refine ⟨fun c c1 c2 => ⟨?_, ?_⟩, ?_⟩
              · rw [up_o (by omega), up_o (by omega), k0 _ _ (by omega)]; exact (g1 c c1 c2).1
              · rw [up_o (by omega), up_o (by omega), k0 _ _ (by omega)]; exact (g1 c c1 c2).2
              · rw [up_o (by omega), up_o (by omega), k0 _ _ (by omega)]; exact g2
        have pm2 : ∀ (L : sk_S) (g : Int), (∀ a j, 159 ≤ a → a ≤ 165 → L a j = I a j) → ((0 ≤ g → L 163 (10 * g + k) = pm I g k 0 ∧ L 164 (10 * g + k) = pm I g k 1 ∧ L 165 (10 * g + k) = pm I g k 2) ∧ (¬ 0 ≤ g → L 159 k = pm I g k 0 ∧ L 160 k = pm I g k 1 ∧ (0 : Int) = pm I g k 2)) := by
          intro L g hL
          refine ⟨fun q => ?_, fun q => ?_⟩
          · unfold pm
            simp only [if_pos q]
            rw [hL 163 _ (by decide) (by decide), hL 164 _ (by decide) (by decide), hL 165 _ (by decide) (by decide)]
            exact ⟨rfl, rfl, rfl⟩
          · unfold pm
            simp only [if_neg q]
            rw [hL 159 _ (by decide) (by decide), hL 160 _ (by decide) (by decide)]
            exact ⟨rfl, rfl, rfl⟩
        have j152 : ∀ (L : sk_S) (v : Int), (∀ a j, ¬ (168 ≤ a ∧ a ≤ 169 ∧ j = 10 * sl + k) → L a j = J a j) → L 168 (10 * sl + k) = pm I f k 0 → L 169 (10 * sl + k) = pm I f k 1 → v = pm I f k 2 → J_Mo_begins_152 sl f t n k (10 * sl + k) v Q X L := by
          intro L v k0 k1 k2 k3
          have o1 : ∀ a j, 159 ≤ a → a ≤ 165 → up L 170 (10 * sl + k) v a j = I a j := fun a j q1 q2 => by
            rw [up_o (by omega), k0 _ _ (by omega)]; exact old a j q1 q2
          have o2 : ∀ w a j, 159 ≤ a → a ≤ 165 → up (up L 170 (10 * sl + k) v) 171 (10 * sl + k) w a j = I a j := fun w a j q1 q2 => by
            rw [up_o (by omega)]; exact o1 a j q1 q2
          have o3 : ∀ w w' a j, 159 ≤ a → a ≤ 165 → up (up (up L 170 (10 * sl + k) v) 171 (10 * sl + k) w) 172 (10 * sl + k) w' a j = I a j := fun w w' a j q1 q2 => by
            rw [up_o (by omega)]; exact o2 w a j q1 q2
          have fin : ∀ w w' w'', w = pm I t k 0 → w' = pm I t k 1 → w'' = pm I t k 2 → J_Mo_begins_260 sl f t n k (10 * sl + k) w'' Q X (up (up (up L 170 (10 * sl + k) v) 171 (10 * sl + k) w) 172 (10 * sl + k) w') := by
            intro w w' w'' e1 e2 e3
            refine j260 _ _ (fun a j q => ?_) ?_ ?_ ?_ ?_ ?_ e3
            · rw [up_o (by omega), up_o (by omega), up_o (by omega)]; exact k0 _ _ (by omega)
            · rw [up_o (by omega), up_o (by omega), up_o (by omega)]; exact k1
            · rw [up_o (by omega), up_o (by omega), up_o (by omega)]; exact k2
            · rw [up_o (by omega), up_o (by omega), up_h]; exact k3
            · rw [up_o (by omega), up_h]; exact e1
            · rw [up_h]; exact e2
          by_cases q : 0 ≤ t
          · refine ⟨by omega, bT q ⟨by omega, by omega, by omega, bT q ⟨by omega, by omega, by omega, bT q ⟨by omega, by omega, fin _ _ _ ?_ ?_ ?_⟩⟩⟩⟩
            · exact ((pm2 _ t o1).1 q).1
            · exact ((pm2 _ t (o2 _)).1 q).2.1
            · exact ((pm2 _ t (o3 _ _)).1 q).2.2
          · refine ⟨by omega, bF q ⟨by omega, by omega, by omega, bF q ⟨by omega, by omega, by omega, bF q ⟨by omega, fin _ _ _ ?_ ?_ ?_⟩⟩⟩⟩
            · exact ((pm2 _ t o1).2 q).1
            · exact ((pm2 _ t (o2 _)).2 q).2.1
            · exact ((pm2 J t old).2 q).2.2
        have o2 : ∀ w a j, 159 ≤ a → a ≤ 165 → up J 168 (10 * sl + k) w a j = I a j := fun w a j q1 q2 => by
          rw [up_o (by omega)]; exact old a j q1 q2
        have o3 : ∀ w w' a j, 159 ≤ a → a ≤ 165 → up (up J 168 (10 * sl + k) w) 169 (10 * sl + k) w' a j = I a j := fun w w' a j q1 q2 => by
          rw [up_o (by omega)]; exact o2 w a j q1 q2
        have fin : ∀ w w' w'', w = pm I f k 0 → w' = pm I f k 1 → w'' = pm I f k 2 → J_Mo_begins_152 sl f t n k (10 * sl + k) w'' Q X (up (up J 168 (10 * sl + k) w) 169 (10 * sl + k) w') := by
          intro w w' w'' e1 e2 e3
          refine j152 _ _ (fun a j q => ?_) ?_ ?_ e3
          · rw [up_o (by omega), up_o (by omega)]
          · rw [up_o (by omega), up_h]; exact e1
          · rw [up_h]; exact e2
        refine hX _ _ (bF (by omega) ?_)
        by_cases q : 0 ≤ f
        · refine bT q ⟨by omega, by omega, by omega, bT q ⟨by omega, by omega, by omega, bT q ⟨by omega, by omega, fin _ _ _ ?_ ?_ ?_⟩⟩⟩
          · exact ((pm2 _ f old).1 q).1
          · exact ((pm2 _ f (o2 _)).1 q).2.1
          · exact ((pm2 _ f (o3 _ _)).1 q).2.2
        · refine bF q ⟨by omega, by omega, by omega, bF q ⟨by omega, by omega, by omega, bF q ⟨by omega, fin _ _ _ ?_ ?_ ?_⟩⟩⟩
          · exact ((pm2 _ f old).2 q).1
          · exact ((pm2 _ f (o2 _)).2 q).2.1
          · exact ((pm2 _ f old).2 q).2.2
    refine key n 0 _ rfl (fun a j q1 q2 => by rw [up_o (by omega), up_o (by omega)]) ?_ ?_ (fun i hi => absurd hi (Nat.not_lt_zero i))
    · rw [up_o (by omega), up_h]
    · rw [up_h]
  by_cases q : 0 ≤ t
  · rw [if_pos q] at en
    refine bT q ⟨by omega, hsl, hsl, ?_⟩
    rw [en]
    exact body
  · rw [if_neg q] at en
    refine bF q ⟨hsl, hsl, ?_⟩
    rw [en]
    exact body
