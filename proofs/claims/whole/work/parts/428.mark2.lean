/-! ===== mark: the step ===== -/
theorem s_marks2 {f t x y z n : Int} {A B : Int → Int} {Q : Int → sk_S → Prop} {I : sk_S} (e : I 158 48 = n) (hn : 0 ≤ n ∧ n ≤ 200) (eA : ∀ j : Int, I 191 j = A j) (eB : ∀ j : Int, I 192 j = B j) (h1 : (∀ j : Int, 0 ≤ j → j < n → A j = f → B j < t) → J_Mo_mark_114 f t x y z Q I) (h0 : ¬ (∀ j : Int, 0 ≤ j → j < n → A j = f → B j < t) → Q (-2) I) : L_Mo_mark_74 f t x y z Q 0 I := by
  intro X hX
  have key : ∀ (m : Nat) (k : Int), k + m = n → 0 ≤ k → (∀ j : Int, 0 ≤ j → j < k → A j = f → B j < t) → X k I := by
    intro m
    induction m with
    | zero =>
      intro k k1 k2 k3
      obtain rfl : k = n := by omega
      exact hX _ _ (bT (by omega) (h1 k3))
    | succ m ih =>
      intro k k1 k2 k3
      have nx : (A k = f → B k < t) → J_Mo_mark_108 f t x y z k Q X I := fun q => ⟨by omega, nm (ih (k + 1) (by omega) (by omega) (fun j j1 j2 j3 => by
        by_cases e' : j = k
        · rw [e'] at j3 ⊢; exact q j3
        · exact k3 j j1 (by omega) j3))⟩
      refine hX _ _ (bF (by omega) ⟨by omega, ?_⟩)
      rw [eA, eB]
      exact ⟨fun q => nx (fun r => absurd r q), fun q => ⟨by omega, fun c => nx (fun _ => c), fun c => h0 (fun b => c (b k k2 (by omega) q))⟩⟩
  exact key n.toNat 0 (by omega) (by omega) (fun j j1 j2 => by omega)
theorem s_mark114 {f t x y z : Int} {Q : Int → sk_S → Prop} {I : sk_S} (hn : 0 ≤ I 158 48 ∧ I 158 48 ≤ 200) (h1 : I 158 48 < 200 → Q (I 158 48 + 1) (up (up (up (up (up (up I 191 (I 158 48) f) 192 (I 158 48) t) 193 (I 158 48) x) 194 (I 158 48) y) 195 (I 158 48) z) 158 48 (I 158 48 + 1))) (h0 : I 158 48 = 200 → Q (-4) I) : J_Mo_mark_114 f t x y z Q I := by
  have o1 : ∀ (J : sk_S) (k w : Int), up J 191 k w 158 48 = J 158 48 := fun J k w => up_o (by omega)
  have o2 : ∀ (J : sk_S) (k w : Int), up J 192 k w 158 48 = J 158 48 := fun J k w => up_o (by omega)
  have o3 : ∀ (J : sk_S) (k w : Int), up J 193 k w 158 48 = J 158 48 := fun J k w => up_o (by omega)
  have o4 : ∀ (J : sk_S) (k w : Int), up J 194 k w 158 48 = J 158 48 := fun J k w => up_o (by omega)
  have o5 : ∀ (J : sk_S) (k w : Int), up J 195 k w 158 48 = J 158 48 := fun J k w => up_o (by omega)
  unfold J_Mo_mark_114
  simp only [o1, o2, o3, o4, o5, up_h]
  exact ⟨fun q => ⟨by omega, by omega, by omega, by omega, by omega, by omega, h1 (by omega)⟩, h0⟩
theorem mark_Inv {f t x y z : Int} {I K : sk_S} (h : iMark I) (hf : 0 ≤ f ∧ f ≤ 9) (ht : 0 ≤ t ∧ t ≤ 999) (hx : -200 ≤ x ∧ x ≤ 200) (hy : -200 ≤ y ∧ y ≤ 200) (hz : 0 ≤ z ∧ z ≤ 200) (hn : I 149 4 < 200) (hb : bh I f t)
    (kn : K 149 4 = I 149 4 + 1) (km : K 158 48 = I 149 4 + 1) (k5 : K 149 5 = I 149 5 ∧ K 149 6 = I 149 6 ∧ K 158 49 = I 158 49 ∧ K 158 50 = I 158 50)
    (k191 : ∀ k, K 191 k = if k = I 149 4 then f else I 191 k) (k192 : ∀ k, K 192 k = if k = I 149 4 then t else I 192 k) (k193 : ∀ k, K 193 k = if k = I 149 4 then x else I 193 k) (k194 : ∀ k, K 194 k = if k = I 149 4 then y else I 194 k) (k195 : ∀ k, K 195 k = if k = I 149 4 then z else I 195 k)
    (k151 : ∀ k c : Int, 0 ≤ c → c < 5 → K 151 (k * 5 + c) = if k = I 149 4 then (if c = 0 then x else if c = 1 then y else if c = 2 then z else if c = 3 then t else -1) else if c = 4 ∧ k = I 155 f ∧ I 155 f ≠ -1 then I 149 4 else I 151 (k * 5 + c))
    (k153 : ∀ k, K 153 k = if k = f ∧ I 155 f = -1 then I 149 4 else I 153 k) (k155 : ∀ k, K 155 k = if k = f then I 149 4 else I 155 k) : iMark K := by
  have hp := mark_top h
  obtain ⟨g1, g2, g3, g4, g5, g6⟩ := h
  have ls := (g5 f hf.1 (by omega)).2
  have ls' := ls
  unfold iMark
  rw [kn, km, k5.1, k5.2.1, k5.2.2.1, k5.2.2.2]
  generalize hN : I 149 4 = n at *
  generalize hR : I 155 f = r at *
  refine ⟨⟨rfl, ⟨by omega, by omega⟩⟩, g2, fun k c1 c2 => ?_, fun j k c1 c2 c3 c4 => ?_, fun v c1 c2 => ⟨?_, ?_⟩, fun k c1 c2 => ?_⟩
  · rw [k151 k 0 (by decide) (by decide), k151 k 1 (by decide) (by decide), k151 k 2 (by decide) (by decide), k151 k 3 (by decide) (by decide), k191, k192, k193, k194, k195]
    by_cases e : k = n
    · simp only [if_pos e]
      exact ⟨⟨rfl, rfl, rfl, rfl⟩, hf, ht, hx, hy, hz⟩
    · simp only [if_neg e]
      exact g3 k c1 (by omega)
  · rw [k191, k191] at c4
    rw [k192, k192]
    rw [if_neg (show ¬ j = n by omega)] at c4 ⊢
    by_cases e : k = n
    · rw [if_pos e] at c4 ⊢
      exact hb j c1 (by omega) c4
    · rw [if_neg e] at c4 ⊢
      exact g4 j k c1 c2 (by omega) c4
  · rw [k153]
    have g := (g5 v c1 c2).1
    by_cases e : v = f ∧ r = -1
    · rw [if_pos e]
      refine Or.inr ⟨by omega, by omega, by rw [k191, if_pos rfl]; exact e.1.symm, fun j j1 j2 => ?_⟩
      rw [k191, if_neg (by omega), e.1]
      rcases ls with q | q
      · exact q.2 j j1 (by omega)
      · omega
    · rw [if_neg e]
      rcases g with q | q
      · refine Or.inl ⟨q.1, fun j j1 j2 => ?_⟩
        rw [k191]
        by_cases c : j = n
        · rw [if_pos c]
          intro c'
          rcases ls with w | w
          · exact e ⟨c'.symm, w.1⟩
          · exact q.2 r w.1 w.2.1 (by rw [w.2.2.1]; exact c')
        · rw [if_neg c]
          exact q.2 j j1 (by omega)
      · refine Or.inr ⟨q.1, by omega, by rw [k191, if_neg (by omega)]; exact q.2.2.1, fun j j1 j2 => ?_⟩
        rw [k191, if_neg (by omega)]
        exact q.2.2.2 j j1 j2
  · rw [k155]
    by_cases e : v = f
    · rw [if_pos e]
      exact Or.inr ⟨by omega, by omega, by rw [k191, if_pos rfl]; exact e.symm, fun j j1 j2 => by omega⟩
    · rw [if_neg e]
      rcases (g5 v c1 c2).2 with q | q
      · refine Or.inl ⟨q.1, fun j j1 j2 => ?_⟩
        rw [k191]
        by_cases c : j = n
        · rw [if_pos c]; exact fun c' => e c'.symm
        · rw [if_neg c]; exact q.2 j j1 (by omega)
      · refine Or.inr ⟨q.1, by omega, by rw [k191, if_neg (by omega)]; exact q.2.2.1, fun j j1 j2 => ?_⟩
        rw [k191]
        by_cases c : j = n
        · rw [if_pos c]; exact fun c' => e c'.symm
        · rw [if_neg c]; exact q.2.2.2 j j1 (by omega)
  · rw [k151 k 4 (by decide) (by decide), k191]
    by_cases e : k = n
    · rw [if_pos e, if_pos e, if_neg (by decide), if_neg (by decide), if_neg (by decide), if_neg (by decide)]
      exact Or.inl ⟨rfl, fun j j1 j2 => by omega⟩
    · rw [if_neg e, if_neg e]
      by_cases c : k = r
      · rw [if_pos ⟨rfl, c, by omega⟩]
        rcases ls with w | w
        · omega
        · refine Or.inr ⟨by omega, by omega, by rw [k191, if_pos rfl, c]; exact w.2.2.1.symm, fun j j1 j2 => ?_⟩
          rw [k191, if_neg (by omega), c, w.2.2.1]
          exact w.2.2.2 j (by omega) j2
      · rw [if_neg (fun q => c q.2.1)]
        rcases g6 k c1 (by omega) with q | q
        · refine Or.inl ⟨q.1, fun j j1 j2 => ?_⟩
          rw [k191]
          by_cases d : j = n
          · rw [if_pos d]
            intro d'
            rcases ls with w | w
            · exact w.2 k c1 (by omega) d'.symm
            · rcases Int.lt_or_le r k with w2 | w2
              · exact w.2.2.2 k w2 (by omega) d'.symm
              · exact q.2 r (by omega) w.2.1 (by rw [w.2.2.1]; exact d')
          · rw [if_neg d]
            exact q.2 j j1 (by omega)
        · refine Or.inr ⟨q.1, by omega, by rw [k191, if_neg (by omega)]; exact q.2.2.1, fun j j1 j2 => ?_⟩
          rw [k191, if_neg (by omega)]
          exact q.2.2.2 j j1 j2
theorem s_Mo_mark {f t x y z : Int} {Q : Int → sk_S → Prop} {I : sk_S} (hf : 0 ≤ f ∧ f ≤ 9) (h1 : ((0 ≤ t ∧ t ≤ 999) ∧ (-200 ≤ x ∧ x ≤ 200) ∧ (-200 ≤ y ∧ y ≤ 200) ∧ (0 ≤ z ∧ z ≤ 200)) → L_Mo_mark_74 f t x y z Q 0 I) (h0 : ¬ ((0 ≤ t ∧ t ≤ 999) ∧ (-200 ≤ x ∧ x ≤ 200) ∧ (-200 ≤ y ∧ y ≤ 200) ∧ (0 ≤ z ∧ z ≤ 200)) → Q (-2) I) : M_Mo_mark f t x y z Q I :=
  s_isIn (fun _ => n1 (s_isIn (fun q1 => z1 (s_isIn (fun q2 => z1 (s_isIn (fun q3 => z1 (s_isIn (fun q4 => n1 (h1 ⟨q1, q2, q3, q4⟩)) (fun q => n0 (h0 fun c => q c.2.2.2)))) (fun q => z0 (h0 fun c => q c.2.2.1)))) (fun q => z0 (h0 fun c => q c.2.1)))) (fun q => z0 (h0 fun c => q c.1)))) (fun q => absurd hf q)
theorem step_mark {I : sk_S} (h : Inv I) (f t x y z : Int) {Q : Int → sk_S → Prop} (hQ : ∀ r I1, Two (M_Mo_mark f t x y z) r I1 → Q r I1) : M_Sky_mark f t x y z Q I := by
  obtain ⟨h1, h2, h3, h4, h5, h6, h7⟩ := id h
  have h8 := h2.2.1
  unfold rg at h8
  have hp := mark_top h7
  have hm : I 149 4 = I 158 48 := h7.1.1
  by_cases qf : 0 ≤ f ∧ f ≤ 9
  · refine s_isWithin (fun _ => n1 ?_) (fun p => absurd qf p)
    have bad : ¬ ((0 ≤ t ∧ t ≤ 999) ∧ (-200 ≤ x ∧ x ≤ 200) ∧ (-200 ≤ y ∧ y ≤ 200) ∧ (0 ≤ z ∧ z ≤ 200)) ∨ ¬ bh I f t → Q (-2) I := fun q => hQ _ _ fun K hK => by
      refine s_Mo_mark qf (fun c => s_marks2 hm.symm hp (fun _ => rfl) (fun _ => rfl) (fun b => ?_) (fun _ => Ok.use hK ⟨rfl, h⟩)) (fun _ => Ok.use hK ⟨rfl, h⟩)
      rcases q with q | q
      · exact absurd c q
      · exact absurd b q
    by_cases qt : 0 ≤ t ∧ t ≤ 999
    · refine s_isWithin (fun _ => z1 ?_) (fun p => absurd qt p)
      refine s_isBehind h7 qf (fun qb => n1 ?_) (fun qb => n0 (bad (Or.inr qb)))
      by_cases qx : -200 ≤ x ∧ x ≤ 200
      · refine s_isAcross (fun _ => z1 ?_) (fun p => absurd qx p)
        by_cases qy : -200 ≤ y ∧ y ≤ 200
        · refine s_isAcross (fun _ => z1 ?_) (fun p => absurd qy p)
          by_cases qz : 0 ≤ z ∧ z ≤ 200
          · refine s_isWithin (fun _ => n1 ?_) (fun p => absurd qz p)
            refine ⟨fun c => s_Foreign_add h7 qf c (fun J hJ => hQ _ _ fun KK hKK => ?_), fun c => hQ _ _ fun KK hKK => ?_⟩
            · have hl := (h7.2.2.2.2.1 f qf.1 (by omega)).2
              have hr : I 155 f = -1 ∨ (0 ≤ I 155 f ∧ I 155 f < I 149 4) := by
                rcases hl with w | w
                · exact Or.inl w.1
                · exact Or.inr ⟨w.1, w.2.1⟩
              have e0 : ∀ a k, a ≠ 151 → a ≠ 153 → a ≠ 155 → ¬ (a = 149 ∧ k = 4) → J a k = I a k := fun a k q1 q2 q3 q4 => by
                rw [hJ, if_neg q4, if_neg (fun q => q3 q.1), if_neg (fun q => q2 q.1), if_neg (fun q => q1 q.1), if_neg (fun q => q1 q.1), if_neg (fun q => q1 q.1), if_neg (fun q => q1 q.1), if_neg (fun q => q1 q.1), if_neg (fun q => q1 q.1)]
              have j4 : J 149 4 = I 149 4 + 1 := by rw [hJ, if_pos ⟨rfl, rfl⟩]
              have jm : J 158 48 = I 149 4 := by rw [e0 _ _ (by decide) (by decide) (by decide) (by omega)]; exact hm.symm
              rw [j4] at hKK
              refine s_Mo_mark qf (fun _ => s_marks2 (n := I 149 4) (A := I 191) (B := I 192) jm hp (fun j => e0 _ _ (by decide) (by decide) (by decide) (by omega)) (fun j => e0 _ _ (by decide) (by decide) (by decide) (by omega)) (fun _ => s_mark114 (by omega) (fun _ => ?_) (fun q => by omega)) (fun q => absurd qb q)) (fun q => absurd ⟨qt, qx, qy, qz⟩ q)
              rw [jm]
              generalize hK : up (up (up (up (up (up J 191 (I 149 4) f) 192 (I 149 4) t) 193 (I 149 4) x) 194 (I 149 4) y) 195 (I 149 4) z) 158 48 (I 149 4 + 1) = K
              have u : ∀ a k, K a k = if a = 158 ∧ k = 48 then I 149 4 + 1 else if a = 195 ∧ k = I 149 4 then z else if a = 194 ∧ k = I 149 4 then y else if a = 193 ∧ k = I 149 4 then x else if a = 192 ∧ k = I 149 4 then t else if a = 191 ∧ k = I 149 4 then f else J a k := fun a k => by
                rw [← hK]
                unfold up
                rfl
              have e1 : ∀ a k, a ≠ 191 → a ≠ 192 → a ≠ 193 → a ≠ 194 → a ≠ 195 → ¬ (a = 158 ∧ k = 48) → K a k = J a k := fun a k q1 q2 q3 q4 q5 q6 => by
                rw [u, if_neg q6, if_neg (fun q => q5 q.1), if_neg (fun q => q4 q.1), if_neg (fun q => q3 q.1), if_neg (fun q => q2 q.1), if_neg (fun q => q1 q.1)]
              have e2 : ∀ a k, ¬ dMark a k → K a k = I a k := fun a k d => by
                unfold dMark at d
                rw [e1 a k (by omega) (by omega) (by omega) (by omega) (by omega) (by omega), e0 a k (by omega) (by omega) (by omega) (by omega)]
              refine Ok.use hKK ⟨rfl, h1.cong fun a k d => ?_, h2.cong fun a k d => ?_, h3.cong fun a k d => ?_, h4.cong fun a k d => ?_, h5.cong fun a k d => ?_, h6.cong (by omega) (Or.inl ?_) (sameFig_of (fun a k d => ?_) (by omega)) (fun a k d => ?_), ?_⟩
              · refine e2 a k ?_; unfold dFly at d; unfold dMark; omega
              · refine e2 a k ?_; unfold dFig at d; unfold dMark; omega
              · refine e2 a k ?_; unfold dAir at d; unfold dMark; omega
              · refine e2 a k ?_; unfold dTape at d; unfold dMark; omega
              · refine e2 a k ?_; unfold dPass at d; unfold dMark; omega
              · refine e2 _ _ ?_; unfold dMark; omega
              · refine e2 a k ?_; unfold dMark; omega
              · refine e2 a k ?_; unfold dShow at d; unfold dMark; omega
              · refine mark_Inv h7 qf qt qx qy qz c qb ?_ ?_ ⟨?_, ?_, ?_, ?_⟩ (fun k => ?_) (fun k => ?_) (fun k => ?_) (fun k => ?_) (fun k => ?_) (fun k c c1 c2 => ?_) (fun k => ?_) (fun k => ?_)
                · rw [e1 _ _ (by decide) (by decide) (by decide) (by decide) (by decide) (by omega), j4]
                · rw [u, if_pos ⟨rfl, rfl⟩]
                · rw [e1 _ _ (by decide) (by decide) (by decide) (by decide) (by decide) (by omega), e0 _ _ (by decide) (by decide) (by decide) (by omega)]
                · rw [e1 _ _ (by decide) (by decide) (by decide) (by decide) (by decide) (by omega), e0 _ _ (by decide) (by decide) (by decide) (by omega)]
                · rw [e1 _ _ (by decide) (by decide) (by decide) (by decide) (by decide) (by omega), e0 _ _ (by decide) (by decide) (by decide) (by omega)]
                · rw [e1 _ _ (by decide) (by decide) (by decide) (by decide) (by decide) (by omega), e0 _ _ (by decide) (by decide) (by decide) (by omega)]
                · have := e0 191 k (by decide) (by decide) (by decide) (by omega)
                  rw [u, if_neg (by omega), if_neg (by omega), if_neg (by omega), if_neg (by omega), if_neg (by omega), this]
                  by_cases e : k = I 149 4
                  · rw [if_pos e, if_pos ⟨rfl, e⟩]
                  · rw [if_neg e, if_neg (fun q => e q.2)]
                · have := e0 192 k (by decide) (by decide) (by decide) (by omega)
                  rw [u, if_neg (by omega), if_neg (by omega), if_neg (by omega), if_neg (by omega)]
                  by_cases e : k = I 149 4
                  · rw [if_pos e, if_pos ⟨rfl, e⟩]
                  · rw [if_neg e, if_neg (fun q => e q.2), if_neg (by omega), this]
                · have := e0 193 k (by decide) (by decide) (by decide) (by omega)
                  rw [u, if_neg (by omega), if_neg (by omega), if_neg (by omega)]
                  by_cases e : k = I 149 4
                  · rw [if_pos e, if_pos ⟨rfl, e⟩]
                  · rw [if_neg e, if_neg (fun q => e q.2), if_neg (by omega), if_neg (by omega), this]
                · have := e0 194 k (by decide) (by decide) (by decide) (by omega)
                  rw [u, if_neg (by omega), if_neg (by omega)]
                  by_cases e : k = I 149 4
                  · rw [if_pos e, if_pos ⟨rfl, e⟩]
                  · rw [if_neg e, if_neg (fun q => e q.2), if_neg (by omega), if_neg (by omega), if_neg (by omega), this]
                · have := e0 195 k (by decide) (by decide) (by decide) (by omega)
                  rw [u, if_neg (by omega)]
                  by_cases e : k = I 149 4
                  · rw [if_pos e, if_pos ⟨rfl, e⟩]
                  · rw [if_neg e, if_neg (fun q => e q.2), if_neg (by omega), if_neg (by omega), if_neg (by omega), if_neg (by omega), this]
                · rw [e1 _ _ (by decide) (by decide) (by decide) (by decide) (by decide) (by omega), hJ, if_neg (by omega), if_neg (by omega), if_neg (by omega)]
                  by_cases e : k = I 149 4
                  · rw [if_pos e, if_neg (by omega)]
                    subst e
                    rcases (by omega : c = 0 ∨ c = 1 ∨ c = 2 ∨ c = 3 ∨ c = 4) with rfl | rfl | rfl | rfl | rfl
                    · rw [if_neg (by omega), if_neg (by omega), if_neg (by omega), if_neg (by omega), if_pos ⟨rfl, rfl⟩, if_pos rfl]
                    · rw [if_neg (by omega), if_neg (by omega), if_neg (by omega), if_pos ⟨rfl, rfl⟩, if_neg (by decide), if_pos rfl]
                    · rw [if_neg (by omega), if_neg (by omega), if_pos ⟨rfl, rfl⟩, if_neg (by decide), if_neg (by decide), if_pos rfl]
                    · rw [if_neg (by omega), if_pos ⟨rfl, rfl⟩, if_neg (by decide), if_neg (by decide), if_neg (by decide), if_pos rfl]
                    · rw [if_pos ⟨rfl, rfl⟩, if_neg (by decide), if_neg (by decide), if_neg (by decide), if_neg (by decide)]
                  · rw [if_neg e]
                    by_cases d : c = 4 ∧ k = I 155 f ∧ I 155 f ≠ -1
                    · rw [if_pos d, if_pos ⟨rfl, by omega, d.2.2⟩]
                    · rw [if_neg d, if_neg (by omega), if_neg (by omega), if_neg (by omega), if_neg (by omega), if_neg (by omega), if_neg (by omega)]
                · rw [e1 _ _ (by decide) (by decide) (by decide) (by decide) (by decide) (by omega), hJ, if_neg (by omega), if_neg (by omega)]
                  by_cases e : k = f ∧ I 155 f = -1
                  · rw [if_pos e, if_pos ⟨rfl, e⟩]
                  · rw [if_neg e, if_neg (fun q => e q.2), if_neg (by omega), if_neg (by omega), if_neg (by omega), if_neg (by omega), if_neg (by omega), if_neg (by omega)]
                · rw [e1 _ _ (by decide) (by decide) (by decide) (by decide) (by decide) (by omega), hJ, if_neg (by omega)]
                  by_cases e : k = f
                  · rw [if_pos e, if_pos ⟨rfl, e⟩]
                  · rw [if_neg e, if_neg (fun q => e q.2), if_neg (by omega), if_neg (by omega), if_neg (by omega), if_neg (by omega), if_neg (by omega), if_neg (by omega), if_neg (by omega)]
            · refine s_Mo_mark qf (fun _ => s_marks2 hm.symm hp (fun _ => rfl) (fun _ => rfl) (fun _ => s_mark114 (by omega) (fun q => by omega) (fun _ => Ok.use hKK ⟨rfl, h⟩)) (fun q => absurd qb q)) (fun q => absurd ⟨qt, qx, qy, qz⟩ q)
          · exact s_isWithin (fun p => absurd p qz) (fun _ => n0 (bad (Or.inl fun q => qz q.2.2.2)))
        · exact s_isAcross (fun p => absurd p qy) (fun _ => z0 (bad (Or.inl fun q => qy q.2.2.1)))
      · exact s_isAcross (fun p => absurd p qx) (fun _ => z0 (bad (Or.inl fun q => qx q.2.1)))
    · exact s_isWithin (fun p => absurd p qt) (fun _ => z0 (bad (Or.inl fun q => qt q.1)))
  · refine s_isWithin (fun p => absurd p qf) (fun _ => n0 (hQ _ _ fun K hK => ?_))
    exact s_isIn (fun p => absurd p qf) (fun _ => n0 (Ok.use hK ⟨rfl, h⟩))
