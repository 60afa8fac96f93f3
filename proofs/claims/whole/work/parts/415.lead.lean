/-! ===== the class leads a pass ===== -/
def ledAt (I J : sk_S) (p0 p q i g : Int) : Prop := (∀ c : Int, 0 ≤ c → c < 3 → J (p0 + 2) (i * 8 + c) = I (p + 2) (i * 4 + c) ∧ J (p0 + 2) (i * 8 + 3 + c) = I (q + 2) (g * 4 + c) - I (p + 2) (i * 4 + c)) ∧ J (p0 + 2) (i * 8 + 6) = g ∧ J (p0 + 2) (i * 8 + 7) = 0
theorem s_lead {p0 p q ticks : Int} {n : Nat} {Q : Int → sk_S → Prop} {I : sk_S} (h0 : kd p0 = 4) (l0 : 43 < p0) (hp : kd p = 5) (hq : kd q = 5) (lp : p < 37) (lq : q < 37) (hn : n < 11) (e1 : I p 1 = n) (e2 : I q 1 = n) (hr : ∀ i j : Nat, i < n → j < n → near400 I p q i j)
    (h : ∀ J : sk_S, (∀ a k, a ≠ 39 → a ≠ 41 → a ≠ 43 → ¬ (a = p0 ∧ (k = 1 ∨ k = 2)) → a ≠ p0 + 2 → J a k = I a k) → J p0 1 = n → J p0 2 = ticks → (∀ i : Nat, i < n → ledAt I J p0 p q i (goalf (fun i j => wv I p q i j) n i : Nat)) → Q (needf (fun i j => wv I p q i j) n n 0) J) : M_Pass_lead p0 p q ticks Q I := by
  have hw : Wb (fun i j => wv I p q i j) n := fun i j a b => wv_rg (hr i j a b)
  have ep : p + 1 + 1 = p + 2 := by omega
  have eq : q + 1 + 1 = q + 2 := by omega
  have e0 : p0 + 1 + 1 = p0 + 2 := by omega
  have lnp : ln (p + 2) = 40 := ln5 hp
  have lnq : ln (q + 2) = 40 := ln5 hq
  have ln0 : ln (p0 + 2) = 80 := ln4 h0
  refine s_plan hp hq lp lq hn e1 e2 hr (fun K k1 k2 => ?_)
  have ek : K p 1 = n := by rw [k1 _ _ (by omega) (by omega) (by omega)]; exact e1
  show L_Pass_lead_25 p0 p q _ Q 0 (up (up K p0 1 (K p 1)) p0 2 ticks)
  rw [ek]
  intro X hX
  have key : ∀ (k i : Nat) (J : sk_S), k + i = n → (∀ a k, a ≠ p0 + 2 → J a k = (up (up K p0 1 n) p0 2 ticks) a k) → (∀ i' : Nat, i' < i → ledAt I J p0 p q i' (goalf (fun i j => wv I p q i j) n i' : Nat)) → X i J := by
    intro k
    induction k with
    | zero =>
      intro i J h1 h2 h3
      obtain rfl : i = n := by omega
      have s1 : J p0 1 = i := by rw [h2 _ _ (by omega), up_o (by omega), up_h]
      refine hX _ _ (bT (by omega) (h J (fun a k q1 q2 q3 q4 q5 => ?_) s1 ?_ h3))
      · rw [h2 a k q5, up_o (by omega), up_o (by omega)]
        exact k1 a k q1 q2 q3
      · rw [h2 _ _ (by omega), up_h]
    | succ k ih =>
      intro i J h1 h2 h3
      have s1 : J p0 1 = n := by rw [h2 _ _ (by omega), up_o (by omega), up_h]
      have hg := goalf_lt hn hw (i := i) (by omega)
      have eg : J (42 + 1) i = (goalf (fun i j => wv I p q i j) n i : Nat) := by
        rw [show (42 : Int) + 1 = 43 from rfl, h2 _ _ (by omega), up_o (by omega), up_o (by omega)]
        exact k2 i (by omega)
      refine hX _ _ (bF (by omega) (s_Row_at (by rw [show (42 : Int) + 1 = 43 from rfl, lnn_43]; omega) ?_))
      rw [eg]
      generalize hgg : goalf (fun i j => wv I p q i j) n i = g at hg
      have hnear := hr i g (by omega) hg
      intro Y hY
      have fr : ∀ a k, (a = p + 2 ∨ a = q + 2) → J a k = I a k := fun a k hh => by
        rw [h2 a k (by omega), up_o (by omega), up_o (by omega)]
        exact k1 a k (by omega) (by omega) (by omega)
      have inner : ∀ (m c : Nat) (J' : sk_S), m + c = 3 → (∀ a k, J' a k = if a = p0 + 2 ∧ (i : Int) * 8 ≤ k ∧ k < (i : Int) * 8 + c then I (p + 2) ((i : Int) * 4 + (k - (i : Int) * 8)) else if a = p0 + 2 ∧ (i : Int) * 8 + 3 ≤ k ∧ k < (i : Int) * 8 + 3 + c then I (q + 2) ((g : Int) * 4 + (k - (i : Int) * 8 - 3)) - I (p + 2) ((i : Int) * 4 + (k - (i : Int) * 8 - 3)) else J a k) → Y c J' := by
        intro m
        induction m with
        | zero =>
          intro c J' m1 m2
          obtain rfl : c = 3 := by omega
          refine hY _ _ (bT (by decide) ⟨by omega, s_Row_put (by rw [e0, ln0]; omega) ⟨by omega, s_Row_put (by rw [e0, ln0]; omega) ⟨by omega, nm ?_⟩⟩⟩)
          rw [e0]
          have := ih (i + 1) (up (up J' (p0 + 2) ((i : Int) * 8 + 6) g) (p0 + 2) ((i : Int) * 8 + 7) 0) (by omega) (fun a k q => by
            rw [up_o (by omega), up_o (by omega), m2, if_neg (fun r => q r.1), if_neg (fun r => q r.1)]
            exact h2 a k q) (fun i' hi' => ?_)
          · exact this
          · by_cases c' : i' = i
            · subst c'
              rw [hgg]
              refine ⟨fun c c1 c2 => ⟨?_, ?_⟩, ?_, ?_⟩
              · rw [up_o (by omega), up_o (by omega), m2, if_pos ⟨rfl, by omega, by omega⟩, show (i' : Int) * 8 + c - (i' : Int) * 8 = c by omega]
              · rw [up_o (by omega), up_o (by omega), m2, if_neg (by omega), if_pos ⟨rfl, by omega, by omega⟩, show (i' : Int) * 8 + 3 + c - (i' : Int) * 8 - 3 = c by omega]
              · rw [up_o (by omega), up_h]
              · rw [up_h]
            · obtain ⟨a1, a2, a3⟩ := h3 i' (by omega)
              refine ⟨fun c c1 c2 => ⟨?_, ?_⟩, ?_, ?_⟩
              · rw [up_o (by omega), up_o (by omega), m2, if_neg (by omega), if_neg (by omega)]; exact (a1 c c1 c2).1
              · rw [up_o (by omega), up_o (by omega), m2, if_neg (by omega), if_neg (by omega)]; exact (a1 c c1 c2).2
              · rw [up_o (by omega), up_o (by omega), m2, if_neg (by omega), if_neg (by omega)]; exact a2
              · rw [up_o (by omega), up_o (by omega), m2, if_neg (by omega), if_neg (by omega)]; exact a3
        | succ m ih2 =>
          intro c J' m1 m2
          have hc := hnear c (by omega) (by omega)
          refine hY _ _ (bF (by omega) ⟨by omega, s_Row_at (by rw [ep, lnp]; omega) ⟨by omega, s_Row_put (by rw [e0, ln0]; omega) ⟨by omega, s_Row_at (by rw [eq, lnq]; omega) ⟨by omega, ?_, s_Row_put (by rw [e0, ln0]; omega) ⟨by omega, nm ?_⟩⟩⟩⟩⟩)
          · have f1 : J' (p + 1 + 1) ((i : Int) * 4 + c) = I (p + 2) ((i : Int) * 4 + c) := by
              rw [ep, m2, if_neg (by omega), if_neg (by omega)]; exact fr _ _ (Or.inl rfl)
            have f2 : ∀ v : Int, (up J' (p0 + 1 + 1) ((i : Int) * 8 + c) v) (q + 1 + 1) ((g : Int) * 4 + c) = I (q + 2) ((g : Int) * 4 + c) := fun v => by
              rw [up_o (by omega), eq, m2, if_neg (by omega), if_neg (by omega)]; exact fr _ _ (Or.inr rfl)
            rw [f1, f2]
            omega
          · have f1 : J' (p + 1 + 1) ((i : Int) * 4 + c) = I (p + 2) ((i : Int) * 4 + c) := by
              rw [ep, m2, if_neg (by omega), if_neg (by omega)]; exact fr _ _ (Or.inl rfl)
            have f2 : ∀ v : Int, (up J' (p0 + 1 + 1) ((i : Int) * 8 + c) v) (q + 1 + 1) ((g : Int) * 4 + c) = I (q + 2) ((g : Int) * 4 + c) := fun v => by
              rw [up_o (by omega), eq, m2, if_neg (by omega), if_neg (by omega)]; exact fr _ _ (Or.inr rfl)
            rw [f1, f2, e0]
            refine ih2 (c + 1) _ (by omega) (fun a k => ?_)
            by_cases d1 : a = p0 + 2 ∧ k = (i : Int) * 8 + 3 + c
            · rw [d1.1, d1.2, up_h, if_neg (by omega), if_pos ⟨rfl, by omega, by omega⟩, show (i : Int) * 8 + 3 + c - (i : Int) * 8 - 3 = c by omega]
            · rw [up_o d1]
              by_cases d2 : a = p0 + 2 ∧ k = (i : Int) * 8 + c
              · rw [d2.1, d2.2, up_h, if_pos ⟨rfl, by omega, by omega⟩, show (i : Int) * 8 + c - (i : Int) * 8 = c by omega]
              · rw [up_o d2, m2]
                by_cases d3 : a = p0 + 2 ∧ (i : Int) * 8 ≤ k ∧ k < (i : Int) * 8 + c
                · rw [if_pos d3, if_pos (by omega)]
                · rw [if_neg d3]
                  by_cases d4 : a = p0 + 2 ∧ (i : Int) * 8 + 3 ≤ k ∧ k < (i : Int) * 8 + 3 + c
                  · rw [if_pos d4, if_neg (by omega), if_pos (by omega)]
                  · rw [if_neg d4, if_neg (by omega), if_neg (by omega)]
      exact inner 3 0 J rfl (fun a k => by rw [if_neg (by omega), if_neg (by omega)])
  exact key n 0 _ rfl (fun _ _ _ => rfl) (fun i hi => absurd hi (Nat.not_lt_zero i))
