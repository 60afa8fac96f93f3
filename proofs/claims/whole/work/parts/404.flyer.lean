/-! ===== flyer ===== -/
theorem s_Places_add {p x y z v : Int} {Q : sk_S → Prop} {I : sk_S} (hk : kd p = 5) (hs : 0 ≤ I p 1 ∧ I p 1 < 10) (h : ∀ J : sk_S, (∀ a k, J a k = if a = p ∧ k = 1 then I p 1 + 1 else if a = p + 2 ∧ k = I p 1 * 4 + 0 then x else if a = p + 2 ∧ k = I p 1 * 4 + 1 then y else if a = p + 2 ∧ k = I p 1 * 4 + 2 then z else if a = p + 2 ∧ k = I p 1 * 4 + 3 then v else I a k) → Q J) : M_Places_add p x y z v Q I := by
  have hl : ln (p + 1 + 1) = 40 := by rw [show p + 1 + 1 = p + 2 by omega]; exact ln5 hk
  have o : ∀ (J : sk_S) (k w : Int), up J (p + 1 + 1) k w p 1 = J p 1 := fun J k w => up_o (by omega)
  refine bF (by omega) ⟨⟨by omega, by omega⟩, s_Row_put (by rw [hl]; omega) ?_⟩
  rw [o]
  refine ⟨⟨by omega, by omega⟩, s_Row_put (by rw [hl]; omega) ?_⟩
  rw [o, o]
  refine ⟨⟨by omega, by omega⟩, s_Row_put (by rw [hl]; omega) ?_⟩
  rw [o, o, o]
  refine ⟨⟨by omega, by omega⟩, s_Row_put (by rw [hl]; omega) ?_⟩
  rw [o, o, o, o]
  refine ⟨⟨by omega, by omega⟩, h _ (fun a k => ?_)⟩
  rw [show p + 1 + 1 = p + 2 by omega]
  by_cases c1 : a = p ∧ k = 1
  · rw [if_pos c1, c1.1, c1.2, up_h]
  · rw [if_neg c1, up_o c1]
    by_cases c2 : a = p + 2 ∧ k = I p 1 * 4 + 0
    · rw [if_pos c2, up_o (by omega), up_o (by omega), up_o (by omega), c2.1, c2.2, up_h]
    · rw [if_neg c2]
      by_cases c3 : a = p + 2 ∧ k = I p 1 * 4 + 1
      · rw [if_pos c3, up_o (by omega), up_o (by omega), c3.1, c3.2, up_h]
      · rw [if_neg c3]
        by_cases c4 : a = p + 2 ∧ k = I p 1 * 4 + 2
        · rw [if_pos c4, up_o (by omega), c4.1, c4.2, up_h]
        · rw [if_neg c4]
          by_cases c5 : a = p + 2 ∧ k = I p 1 * 4 + 3
          · rw [if_pos c5, c5.1, c5.2, up_h]
          · rw [if_neg c5, up_o c5, up_o c4, up_o c3, up_o c2]
theorem step_flyer {I : sk_S} (h : Inv I) (x y c : Int) {Q : Int → sk_S → Prop} (hQ : ∀ r I1, Two (M_Mo_flyer x y c) r I1 → Q r I1) : M_Sky_flyer x y c Q I := by
  obtain ⟨h1, h2, h3, h4, h5, h6, h7⟩ := id h
  have h8 := h2.2.1
  obtain ⟨f1, f2, f3⟩ := id h1
  have s1 := h6.1
  have s2 := h6.2.1
  unfold rg at h8 f2 s2
  by_cases q1 : -200 ≤ x ∧ x ≤ 200
  · refine s_isAcross (fun _ => z1 ?_) (fun p => absurd q1 p)
    by_cases q2 : -200 ≤ y ∧ y ≤ 200
    · refine s_isAcross (fun _ => z1 ?_) (fun p => absurd q2 p)
      by_cases q3 : 0 ≤ c ∧ c ≤ 100000
      · refine s_isWithin (fun _ => n1 ?_) (fun p => absurd q3 p)
        by_cases c1 : I 54 3 ≤ 0
        · refine bT c1 (s_flyers ?_)
          by_cases c2 : I 5 1 < 10
          · refine bT c2 (s_Gallery_at (x := -1) (by omega) ?_)
            refine s_Places_add kdn_5 ⟨f2.1, c2⟩ (fun J hJ => s_Row_put (by rw [show (63 : Int) + 1 = 64 from rfl, lnn_64]; omega) ?_)
            rw [show (63 : Int) + 1 = 64 from rfl, pa_m1] at *
            have e0 : ∀ a k, a ≠ 5 → a ≠ 7 → a ≠ 64 → up J 64 (I 5 1) c a k = I a k := fun a k k1 k2 k3 => by
              rw [up_o (fun q => k3 q.1), hJ, if_neg (fun q => k1 q.1), if_neg (fun q => k2 q.1), if_neg (fun q => k2 q.1), if_neg (fun q => k2 q.1), if_neg (fun q => k2 q.1)]
            generalize hK0 : up J 64 (I 5 1) c = K0 at e0 ⊢
            have k5 : K0 5 1 = I 5 1 + 1 := by rw [← hK0, up_o (by omega), hJ, if_pos ⟨rfl, rfl⟩]
            have k7 : ∀ i c, 0 ≤ c → c < 4 → K0 7 (i * 4 + c) = if i = I 5 1 then (if c = 0 then x else if c = 1 then y else 0) else I 7 (i * 4 + c) := fun i c j1 j2 => by
              rw [← hK0, up_o (by omega), hJ, if_neg (by omega)]
              by_cases e : i = I 5 1
              · subst e
                rw [if_pos rfl]
                rcases (by omega : c = 0 ∨ c = 1 ∨ c = 2 ∨ c = 3) with rfl | rfl | rfl | rfl
                · rw [if_pos ⟨rfl, rfl⟩]; rfl
                · rw [if_neg (by omega), if_pos ⟨rfl, rfl⟩]; rfl
                · rw [if_neg (by omega), if_neg (by omega), if_pos ⟨rfl, rfl⟩]; rfl
                · rw [if_neg (by omega), if_neg (by omega), if_neg (by omega), if_pos ⟨rfl, rfl⟩]; rfl
              · rw [if_neg e, if_neg (by omega), if_neg (by omega), if_neg (by omega), if_neg (by omega)]
            have k64 : ∀ i, K0 64 i = if i = I 5 1 then c else I 64 i := fun i => by
              rw [← hK0]
              by_cases e : i = I 5 1
              · rw [e, up_h, if_pos rfl]
              · rw [up_o (by omega), if_neg e, hJ, if_neg (by omega), if_neg (by omega), if_neg (by omega), if_neg (by omega), if_neg (by omega)]
            refine hQ _ _ fun KK hKK => ?_
            have b8 : K0 158 8 = I 5 1 := by rw [e0 158 8 (by omega) (by omega) (by omega)]; exact f1
            refine s_isIn (fun _ => z1 ?_) (fun p => absurd q1 p)
            refine s_isIn (fun _ => z1 ?_) (fun p => absurd q2 p)
            refine s_isIn (fun _ => n1 ?_) (fun p => absurd q3 p)
            refine bT (by rw [e0 158 41 (by omega) (by omega) (by omega), ← s1]; exact c1) (nT (by rw [b8]; omega) ?_)
            have o1 : ∀ (J : sk_S) (a k w : Int), a ≠ 158 → up J a k w 158 8 = J 158 8 := fun J a k w q => up_o (by omega)
            simp only [up_h, o1 _ 159 _ _ (by omega), o1 _ 160 _ _ (by omega), o1 _ 161 _ _ (by omega), b8]
            refine ⟨⟨f2.1, c2⟩, ⟨f2.1, c2⟩, ⟨f2.1, c2⟩, ⟨by omega, by omega⟩, ⟨by omega, by omega⟩, ?_⟩
            generalize hK : up (up (up (up K0 159 (I 5 1) x) 160 (I 5 1) y) 161 (I 5 1) c) 158 8 (I 5 1 + 1) = K
            have e1 : ∀ a k, a ≠ 159 → a ≠ 160 → a ≠ 161 → ¬ (a = 158 ∧ k = 8) → K a k = K0 a k := fun a k j1 j2 j3 j4 => by
              rw [← hK, up_o j4, up_o (by omega), up_o (by omega), up_o (by omega)]
            have kk : ∀ i, K 159 i = (if i = I 5 1 then x else I 159 i) ∧ K 160 i = (if i = I 5 1 then y else I 160 i) ∧ K 161 i = if i = I 5 1 then c else I 161 i := fun i => by
              rw [← hK]
              by_cases e : i = I 5 1
              · subst e
                rw [if_pos rfl, if_pos rfl, if_pos rfl]
                refine ⟨?_, ?_, ?_⟩
                · rw [up_o (by omega), up_o (by omega), up_o (by omega), up_h]
                · rw [up_o (by omega), up_o (by omega), up_h]
                · rw [up_o (by omega), up_h]
              · rw [if_neg e, if_neg e, if_neg e]
                refine ⟨?_, ?_, ?_⟩
                · rw [up_o (by omega), up_o (by omega), up_o (by omega), up_o (by omega)]; exact e0 _ _ (by omega) (by omega) (by omega)
                · rw [up_o (by omega), up_o (by omega), up_o (by omega), up_o (by omega)]; exact e0 _ _ (by omega) (by omega) (by omega)
                · rw [up_o (by omega), up_o (by omega), up_o (by omega), up_o (by omega)]; exact e0 _ _ (by omega) (by omega) (by omega)
            have e2 : ∀ a k, a ≠ 5 → a ≠ 7 → a ≠ 64 → a ≠ 159 → a ≠ 160 → a ≠ 161 → ¬ (a = 158 ∧ k = 8) → K a k = I a k := fun a k j1 j2 j3 j4 j5 j6 j7 => (e1 a k j4 j5 j6 j7).trans (e0 a k j1 j2 j3)
            refine Ok.use hKK ⟨by omega, ?_, h2.cong fun a k d => ?_, h3.cong fun a k d => ?_, h4.cong fun a k d => ?_, h5.cong fun a k d => ?_, ?_, h7.cong fun a k d => ?_⟩
            · unfold iFly
              have g1 : K 158 8 = I 5 1 + 1 := by rw [← hK, up_h]
              have g2 : K 5 1 = I 5 1 + 1 := by rw [e1 5 1 (by omega) (by omega) (by omega) (by omega), k5]
              rw [g1, g2]
              refine ⟨rfl, ⟨by omega, by omega⟩, fun i j1 j2 => ?_⟩
              rw [e1 7 _ (by omega) (by omega) (by omega) (by omega), e1 7 _ (by omega) (by omega) (by omega) (by omega), e1 7 _ (by omega) (by omega) (by omega) (by omega), e1 7 _ (by omega) (by omega) (by omega) (by omega), e1 64 _ (by omega) (by omega) (by omega) (by omega), k7 i 0 (by omega) (by omega), k7 i 1 (by omega) (by omega), k7 i 2 (by omega) (by omega), k7 i 3 (by omega) (by omega), k64, (kk i).1, (kk i).2.1, (kk i).2.2]
              by_cases e : i = I 5 1
              · simp only [if_pos e]
                exact ⟨⟨if_pos trivial, by simp, by simp, by simp⟩, ⟨q1, q2⟩, trivial, q3⟩
              · simp only [if_neg e]
                exact f3 i j1 (by omega)
            · unfold dFig at d; exact e2 a k (by omega) (by omega) (by omega) (by omega) (by omega) (by omega) (by omega)
            · unfold dAir at d; exact e2 a k (by omega) (by omega) (by omega) (by omega) (by omega) (by omega) (by omega)
            · unfold dTape at d; exact e2 a k (by omega) (by omega) (by omega) (by omega) (by omega) (by omega) (by omega)
            · unfold dPass at d; exact e2 a k (by omega) (by omega) (by omega) (by omega) (by omega) (by omega) (by omega)
            · unfold iShow
              rw [e2 54 3 (by omega) (by omega) (by omega) (by omega) (by omega) (by omega) (by omega), e2 158 41 (by omega) (by omega) (by omega) (by omega) (by omega) (by omega) (by omega)]
              exact ⟨s1, s2, fun s j1 j2 => by omega⟩
            · unfold dMark at d; exact e2 a k (by omega) (by omega) (by omega) (by omega) (by omega) (by omega) (by omega)
          · refine bF c2 (hQ _ _ fun K hK => ?_)
            refine s_isIn (fun _ => z1 ?_) (fun p => absurd q1 p)
            refine s_isIn (fun _ => z1 ?_) (fun p => absurd q2 p)
            refine s_isIn (fun _ => n1 ?_) (fun p => absurd q3 p)
            exact bT (by rw [← s1]; exact c1) (nF (by omega) (Ok.use hK ⟨rfl, h⟩))
        · refine bF c1 (hQ _ _ fun K hK => ?_)
          refine s_isIn (fun _ => z1 ?_) (fun p => absurd q1 p)
          refine s_isIn (fun _ => z1 ?_) (fun p => absurd q2 p)
          refine s_isIn (fun _ => n1 ?_) (fun p => absurd q3 p)
          exact bF (by rw [← s1]; exact c1) (Ok.use hK ⟨rfl, h⟩)
      · refine s_isWithin (fun p => absurd p q3) (fun p => n0 (hQ _ _ fun K hK => ?_))
        refine s_isIn (fun _ => z1 ?_) (fun p => absurd q1 p)
        refine s_isIn (fun _ => z1 ?_) (fun p => absurd q2 p)
        exact s_isIn (fun p => absurd p q3) (fun _ => n0 (Ok.use hK ⟨rfl, h⟩))
    · refine s_isAcross (fun p => absurd p q2) (fun p => z0 (hQ _ _ fun K hK => ?_))
      refine s_isIn (fun _ => z1 ?_) (fun p => absurd q1 p)
      exact s_isIn (fun p => absurd p q2) (fun _ => z0 (Ok.use hK ⟨rfl, h⟩))
  · refine s_isAcross (fun p => absurd p q1) (fun p => z0 (hQ _ _ fun K hK => ?_))
    exact s_isIn (fun p => absurd p q1) (fun _ => z0 (Ok.use hK ⟨rfl, h⟩))
