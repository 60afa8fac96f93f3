/-! ===== wipe ===== -/
theorem s_Row_fillT {a v : Int} {Q : sk_S → Prop} {I : sk_S} (h : ∀ J : sk_S, (∀ b k, J b k = if b = a + 1 ∧ 0 ≤ k ∧ k < ln (a + 1) then v else I b k) → Q J) : M_Row_fill a v Q I := by
  have hl := ln_r (a + 1)
  intro X hX
  have key : ∀ (m : Nat) (i : Int) (J : sk_S), i + m = ln (a + 1) → 0 ≤ i → (∀ b k, J b k = if b = a + 1 ∧ 0 ≤ k ∧ k < i then v else I b k) → X i J := by
    intro m
    induction m with
    | zero =>
      intro i J h1 h2 h3
      obtain rfl : i = ln (a + 1) := by omega
      exact hX _ _ (bT (Int.le_refl _) (h J h3))
    | succ m ih =>
      intro i J h1 h2 h3
      refine hX _ _ (bF (by omega) ⟨by omega, by have := hl.1; omega, nm (ih (i + 1) _ (by omega) (by omega) (fun b k => ?_))⟩)
      by_cases c : b = a + 1 ∧ k = i
      · rw [c.1, c.2, up_h, if_pos ⟨rfl, h2, by omega⟩]
      · rw [up_o c, h3]
        by_cases d : b = a + 1 ∧ 0 ≤ k ∧ k < i
        · rw [if_pos d, if_pos ⟨d.1, d.2.1, by omega⟩]
        · rw [if_neg d, if_neg (by omega)]
  exact key (ln (a + 1)).toNat 0 I (by omega) (by omega) (fun b k => by rw [if_neg (by omega)])
theorem step_wipe {I : sk_S} (h : Inv I) {Q : Int → sk_S → Prop} (hQ : ∀ r I1, Two M_Mo_wipe r I1 → Q r I1) : M_Sky_wipe Q I := by
  obtain ⟨h1, h2, h3, h4, h5, h6, h7⟩ := id h
  have h8 := h2.2.1
  unfold rg at h8
  refine s_Row_fillT (fun J hJ => s_Row_fillT (fun L hL => hQ _ _ fun K hK => ?_))
  rw [show (152 : Int) + 1 = 153 from rfl, lnn_153] at hJ
  rw [show (154 : Int) + 1 = 155 from rfl, lnn_155] at hL
  have e0 : ∀ a k, a ≠ 153 → a ≠ 155 → ¬ (a = 149 ∧ k = 4) → L a k = I a k := fun a k q1 q2 q3 => by
    rw [hL, if_neg (fun q => q2 q.1), hJ, if_neg (fun q => q1 q.1), up_o q3]
  refine nm ?_
  have e1 : ∀ a k, a ≠ 153 → a ≠ 155 → ¬ (a = 149 ∧ k = 4) → ¬ (a = 158 ∧ k = 48) → up L 158 48 0 a k = I a k := fun a k q1 q2 q3 q4 => by
    rw [up_o q4]; exact e0 a k q1 q2 q3
  have v1 : L 158 48 = I 158 48 := e0 _ _ (by decide) (by decide) (by omega)
  rw [v1]
  refine Ok.use hK ⟨h7.1.1, h1.cong fun a k d => ?_, h2.cong fun a k d => ?_, h3.cong fun a k d => ?_, h4.cong fun a k d => ?_, h5.cong fun a k d => ?_, h6.cong (by omega) (Or.inl ?_) (sameFig_of (fun a k d => ?_) (by omega)) (fun a k d => ?_), ?_⟩
  · unfold dFly at d; exact e1 a k (by omega) (by omega) (by omega) (by omega)
  · unfold dFig at d; exact e1 a k (by omega) (by omega) (by omega) (by omega)
  · unfold dAir at d; exact e1 a k (by omega) (by omega) (by omega) (by omega)
  · unfold dTape at d; exact e1 a k (by omega) (by omega) (by omega) (by omega)
  · unfold dPass at d; exact e1 a k (by omega) (by omega) (by omega) (by omega)
  · exact e1 _ _ (by omega) (by omega) (by omega) (by omega)
  · exact e1 a k (by omega) (by omega) (by omega) (by omega)
  · unfold dShow at d; exact e1 a k (by omega) (by omega) (by omega) (by omega)
  · have w0 : up L 158 48 0 149 4 = 0 := by
      rw [up_o (by omega), hL, if_neg (by omega), hJ, if_neg (by omega), up_h]
    have w1 : up L 158 48 0 158 48 = 0 := up_h
    unfold iMark
    rw [w0, w1, e1 149 5 (by decide) (by decide) (by omega) (by omega), e1 149 6 (by decide) (by decide) (by omega) (by omega), e1 158 49 (by decide) (by decide) (by omega) (by omega), e1 158 50 (by decide) (by decide) (by omega) (by omega)]
    refine ⟨⟨rfl, by decide, by decide⟩, h7.2.1, fun k q1 q2 => by omega, fun j k q1 q2 q3 => by omega, fun f q1 q2 => ⟨?_, ?_⟩, fun k q1 q2 => by omega⟩
    · have : up L 158 48 0 153 f = -1 := by rw [up_o (by omega), hL, if_neg (by omega), hJ, if_pos ⟨rfl, by omega, by omega⟩]
      rw [this]
      exact Or.inl ⟨rfl, fun j j1 j2 => by omega⟩
    · have : up L 158 48 0 155 f = -1 := by rw [up_o (by omega), hL, if_pos ⟨rfl, by omega, by omega⟩]
      rw [this]
      exact Or.inl ⟨rfl, fun j j1 j2 => by omega⟩
