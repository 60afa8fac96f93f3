/-! ===== steps: count, who, gap, zone, margin, goes, delay, wipe ===== -/
theorem step_count {I : sk_S} (h : Inv I) (x : Int) {Q : Int → sk_S → Prop} (hQ : ∀ r I1, Two (M_Mo_count x) r I1 → Q r I1) : M_Sky_count x Q I := by
  have e1 := h.1.1
  have e2 := h.2.1.1
  have e3 := h.2.2.2.2.2.1.1
  have e4 := h.2.2.2.2.2.2.1.1
  have e5 := h.2.2.2.1.1
  have e6 := h.2.2.1.1.1
  have e7 := h.2.2.1.2.2.2.2.1
  refine ⟨fun q => hQ _ _ fun K hK => ?_, fun q => s_flyers (hQ _ _ fun K hK => ?_), fun q => hQ _ _ fun K hK => ?_, fun q => hQ _ _ fun K hK => ?_, fun q => hQ _ _ fun K hK => ?_, fun q => hQ _ _ fun K hK => ?_, fun q => hQ _ _ fun K hK => ?_, fun q => hQ _ _ fun K hK => ?_⟩
  all_goals (refine ⟨fun p => ?_, fun p => ?_, fun p => ?_, fun p => ?_, fun p => ?_, fun p => ?_, fun p => ?_, fun p => ?_⟩ <;> first | (exfalso; omega) | exact Ok.use hK ⟨rfl, h⟩ | exact Ok.use hK ⟨by omega, h⟩)
theorem step_who {I : sk_S} (h : Inv I) (x : Int) {Q : Int → sk_S → Prop} (hQ : ∀ r I1, Two (M_Mo_who x) r I1 → Q r I1) : M_Sky_who x Q I := by
  have e := h.2.2.2.2.2.2.2.1
  refine ⟨fun q => ⟨fun p => hQ _ _ fun K hK => ?_, fun p => hQ _ _ fun K hK => ?_⟩, fun q => hQ _ _ fun K hK => ?_⟩
  · exact nT q (nT p (Ok.use hK ⟨rfl, h⟩))
  · exact nT q (nF p (Ok.use hK ⟨e.2, h⟩))
  · exact nF q (Ok.use hK ⟨e.1, h⟩)
theorem step_gap {I : sk_S} (h : Inv I) (x : Int) {Q : Int → sk_S → Prop} (hQ : ∀ r I1, Two (M_Mo_gap x) r I1 → Q r I1) : M_Sky_gap x Q I := by
  obtain ⟨h1, h2, h3, h4, h5, h6, h7⟩ := id h
  have h8 := h2.2.1
  unfold rg at h8
  refine s_isWithin (fun q => n1 (nm (hQ _ _ fun K hK => ?_))) (fun q => n0 (hQ _ _ fun K hK => ?_))
  · refine s_isIn (fun p => n1 (nm ?_)) (fun p => absurd q p)
    refine Ok.use hK ⟨?_, h1.cong fun a k d => ?_, h2.cong fun a k d => ?_, ?_, h4.cong fun a k d => ?_, h5.cong fun a k d => ?_, h6.cong (by omega) (Or.inl ?_) (sameFig_of (fun a k d => ?_) (by omega)) (fun a k d => ?_), h7.cong fun a k d => ?_⟩
    · rw [up_o (by omega)]; exact h3.1.1
    · unfold dFly at d; rw [up_o (by omega), up_o (by omega)]
    · unfold dFig at d; rw [up_o (by omega), up_o (by omega)]
    · unfold iAir at *
      simp only [up]
      simp
      exact ⟨q, h3.2⟩
    · unfold dTape at d; rw [up_o (by omega), up_o (by omega)]
    · unfold dPass at d; rw [up_o (by omega), up_o (by omega)]
    · rw [up_o (by omega), up_o (by omega)]
    · rw [up_o (by omega), up_o (by omega)]
    · unfold dShow at d; rw [up_o (by omega), up_o (by omega)]
    · unfold dMark at d; rw [up_o (by omega), up_o (by omega)]
  · exact s_isIn (fun p => absurd p q) (fun p => n0 (Ok.use hK ⟨rfl, h⟩))
theorem step_zone {I : sk_S} (h : Inv I) (x y z : Int) {Q : Int → sk_S → Prop} (hQ : ∀ r I1, Two (M_Mo_zone x y z) r I1 → Q r I1) : M_Sky_zone x y z Q I := by
  obtain ⟨h1, h2, h3, h4, h5, h6, h7⟩ := id h
  have h8 := h2.2.1
  unfold rg at h8
  by_cases q1 : -200 ≤ x ∧ x ≤ 200
  · refine s_isAcross (fun _ => z1 ?_) (fun p => absurd q1 p)
    by_cases q2 : -200 ≤ y ∧ y ≤ 200
    · refine s_isAcross (fun _ => z1 ?_) (fun p => absurd q2 p)
      by_cases q3 : 0 ≤ z ∧ z ≤ 200
      · refine s_isWithin (fun _ => n1 ?_) (fun p => absurd q3 p)
        refine hQ _ _ fun K hK => ?_
        refine s_isIn (fun _ => z1 ?_) (fun p => absurd q1 p)
        refine s_isIn (fun _ => z1 ?_) (fun p => absurd q2 p)
        refine s_isIn (fun _ => n1 ?_) (fun p => absurd q3 p)
        refine Ok.use hK ⟨rfl, h1.cong fun a k d => ?_, h2.cong fun a k d => ?_, ?_, h4.cong fun a k d => ?_, h5.cong fun a k d => ?_, h6.cong (by omega) (Or.inl ?_) (sameFig_of (fun a k d => ?_) (by omega)) (fun a k d => ?_), h7.cong fun a k d => ?_⟩
        · unfold dFly at d; rw [up_o (by omega), up_o (by omega), up_o (by omega), up_o (by omega), up_o (by omega), up_o (by omega)]
        · unfold dFig at d; rw [up_o (by omega), up_o (by omega), up_o (by omega), up_o (by omega), up_o (by omega), up_o (by omega)]
        · unfold iAir at *
          simp only [up]
          simp
          exact ⟨h3.1, q1, q2, q3, h3.2.2.2.2⟩
        · unfold dTape at d; rw [up_o (by omega), up_o (by omega), up_o (by omega), up_o (by omega), up_o (by omega), up_o (by omega)]
        · unfold dPass at d; rw [up_o (by omega), up_o (by omega), up_o (by omega), up_o (by omega), up_o (by omega), up_o (by omega)]
        · rw [up_o (by omega), up_o (by omega), up_o (by omega), up_o (by omega), up_o (by omega), up_o (by omega)]
        · rw [up_o (by omega), up_o (by omega), up_o (by omega), up_o (by omega), up_o (by omega), up_o (by omega)]
        · unfold dShow at d; rw [up_o (by omega), up_o (by omega), up_o (by omega), up_o (by omega), up_o (by omega), up_o (by omega)]
        · unfold dMark at d; rw [up_o (by omega), up_o (by omega), up_o (by omega), up_o (by omega), up_o (by omega), up_o (by omega)]
      · refine s_isWithin (fun p => absurd p q3) (fun p => n0 (hQ _ _ fun K hK => ?_))
        refine s_isIn (fun _ => z1 ?_) (fun p => absurd q1 p)
        refine s_isIn (fun _ => z1 ?_) (fun p => absurd q2 p)
        exact s_isIn (fun p => absurd p q3) (fun _ => n0 (Ok.use hK ⟨rfl, h⟩))
    · refine s_isAcross (fun p => absurd p q2) (fun p => z0 (hQ _ _ fun K hK => ?_))
      refine s_isIn (fun _ => z1 ?_) (fun p => absurd q1 p)
      exact s_isIn (fun p => absurd p q2) (fun _ => z0 (Ok.use hK ⟨rfl, h⟩))
  · refine s_isAcross (fun p => absurd p q1) (fun p => z0 (hQ _ _ fun K hK => ?_))
    exact s_isIn (fun p => absurd p q1) (fun _ => z0 (Ok.use hK ⟨rfl, h⟩))
theorem step_margin {I : sk_S} (h : Inv I) (x : Int) {Q : Int → sk_S → Prop} (hQ : ∀ r I1, Two (M_Mo_margin x) r I1 → Q r I1) : M_Sky_margin x Q I := by
  obtain ⟨h1, h2, h3, h4, h5, h6, h7⟩ := id h
  have h8 := h2.2.1
  unfold rg at h8
  refine s_isWithin (fun q => n1 (nm (hQ _ _ fun K hK => ?_))) (fun q => n0 (hQ _ _ fun K hK => ?_))
  · refine s_isIn (fun p => n1 (nm ?_)) (fun p => absurd q p)
    refine Ok.use hK ⟨?_, h1.cong fun a k d => ?_, h2.cong fun a k d => ?_, ?_, h4.cong fun a k d => ?_, h5.cong fun a k d => ?_, h6.cong (by omega) (Or.inl ?_) (sameFig_of (fun a k d => ?_) (by omega)) (fun a k d => ?_), h7.cong fun a k d => ?_⟩
    · rw [up_o (by omega)]; exact h3.2.2.2.2.1
    · unfold dFly at d; rw [up_o (by omega), up_o (by omega)]
    · unfold dFig at d; rw [up_o (by omega), up_o (by omega)]
    · unfold iAir at *
      simp only [up]
      simp
      exact ⟨h3.1, h3.2.1, h3.2.2.1, h3.2.2.2.1, q⟩
    · unfold dTape at d; rw [up_o (by omega), up_o (by omega)]
    · unfold dPass at d; rw [up_o (by omega), up_o (by omega)]
    · rw [up_o (by omega), up_o (by omega)]
    · rw [up_o (by omega), up_o (by omega)]
    · unfold dShow at d; rw [up_o (by omega), up_o (by omega)]
    · unfold dMark at d; rw [up_o (by omega), up_o (by omega)]
  · exact s_isIn (fun p => absurd p q) (fun p => n0 (Ok.use hK ⟨rfl, h⟩))
theorem step_goes {I : sk_S} (h : Inv I) (x : Int) {Q : Int → sk_S → Prop} (hQ : ∀ r I1, Two (M_Mo_goes x) r I1 → Q r I1) : M_Sky_goes x Q I := by
  obtain ⟨g1, g2, g3, g4⟩ := h.2.2.2.2.1
  unfold rg at g2
  refine s_Pass_has (fun q => z1 ?_) (fun q => z0 (hQ _ _ fun K hK => ?_))
  · refine ⟨⟨by omega, by omega⟩, s_Row_at (by rw [show (44 : Int) + 1 + 1 = 46 from rfl, lnn_46]; omega) (hQ _ _ fun K hK => ?_)⟩
    refine s_isOfPass (fun p => z1 ⟨by omega, ?_⟩) (fun p => absurd (by omega) p)
    exact Ok.use hK ⟨(g4 x q.1 q.2).1.1, h⟩
  · exact s_isOfPass (fun p => absurd (by omega) q) (fun p => z0 (Ok.use hK ⟨rfl, h⟩))
theorem step_delay {I : sk_S} (h : Inv I) (x y : Int) {Q : Int → sk_S → Prop} (hQ : ∀ r I1, Two (M_Mo_delay x y) r I1 → Q r I1) : M_Sky_delay x y Q I := by
  obtain ⟨h1, h2, h3, h4, h5, h6, h7⟩ := id h
  have h8 := h2.2.1
  unfold rg at h8
  obtain ⟨g1, g2, g3, g4⟩ := id h5
  have g2' := g2
  unfold rg at g2'
  have l46 : ln (44 + 1 + 1) = 80 := lnn_46
  refine s_Pass_has (fun q => n1 ?_) (fun q => n0 (hQ _ _ fun K hK => ?_))
  · by_cases qy : 0 ≤ y ∧ y ≤ 9
    · refine s_isWithin (fun _ => n1 ?_) (fun p => absurd qy p)
      refine ⟨⟨by omega, by omega⟩, s_Row_at (by rw [l46]; omega) ⟨⟨by omega, by omega⟩, s_Row_put (by rw [l46]; omega) (hQ _ _ fun K hK => ?_)⟩⟩
      refine s_isOfPass (fun p => n1 ?_) (fun p => absurd ⟨q.1, by rw [up_o (by omega)]; omega⟩ p)
      refine s_isIn (fun _ => n1 ⟨by omega, nm ⟨by omega, ?_⟩⟩) (fun p => absurd qy p)
      refine Ok.use hK ⟨?_, h1.cong fun a k d => ?_, h2.cong fun a k d => ?_, h3.cong fun a k d => ?_, h4.cong fun a k d => ?_, ?_, h6.cong (by omega) (Or.inl ?_) (sameFig_of (fun a k d => ?_) (by omega)) (fun a k d => ?_), h7.cong fun a k d => ?_⟩
      · rw [up_o (by omega)]; exact (g4 x q.1 q.2).2.1.1
      · unfold dFly at d; rw [up_o (by omega), up_o (by omega)]
      · unfold dFig at d; rw [up_o (by omega), up_o (by omega)]
      · unfold dAir at d; rw [up_o (by omega), up_o (by omega)]
      · unfold dTape at d; rw [up_o (by omega), up_o (by omega)]
      · unfold iPass
        simp only [up_o (show ¬ ((44 : Int) = 174 ∧ (1 : Int) = x) by omega), up_o (show ¬ ((44 : Int) = 174 ∧ (2 : Int) = x) by omega), up_o (show ¬ ((44 : Int) = 44 + 1 + 1 ∧ (1 : Int) = x * 8 + 7) by omega), up_o (show ¬ ((44 : Int) = 44 + 1 + 1 ∧ (2 : Int) = x * 8 + 7) by omega), up_o (show ¬ ((176 : Int) = 174 ∧ (0 : Int) = x) by omega), up_o (show ¬ ((176 : Int) = 44 + 1 + 1 ∧ (0 : Int) = x * 8 + 7) by omega), up_o (show ¬ ((175 : Int) = 174 ∧ (0 : Int) = x) by omega), up_o (show ¬ ((175 : Int) = 44 + 1 + 1 ∧ (0 : Int) = x * 8 + 7) by omega)]
        refine ⟨g1, g2, g3, fun i e1 e2 => ?_⟩
        obtain ⟨f1, f2, f3⟩ := g4 i e1 e2
        refine ⟨?_, ?_, fun c e3 e4 => ?_⟩
        · rw [up_o (by omega), up_o (by omega), up_o (by omega), up_o (by omega)]; exact f1
        · by_cases e : i = x
          · subst e
            rw [up_o (by omega), show (46 : Int) = 44 + 1 + 1 from rfl, up_h, up_h]
            exact ⟨rfl, qy⟩
          · rw [up_o (by omega), up_o (by omega), up_o (by omega), up_o (by omega)]; exact f2
        · rw [up_o (by omega), up_o (by omega), up_o (by omega), up_o (by omega), up_o (by omega), up_o (by omega), up_o (by omega), up_o (by omega)]; exact f3 c e3 e4
      · rw [up_o (by omega), up_o (by omega)]
      · rw [up_o (by omega), up_o (by omega)]
      · unfold dShow at d; rw [up_o (by omega), up_o (by omega)]
      · unfold dMark at d; rw [up_o (by omega), up_o (by omega)]
    · refine s_isWithin (fun p => absurd p qy) (fun _ => n0 (hQ _ _ fun K hK => ?_))
      refine s_isOfPass (fun p => n1 ?_) (fun p => absurd (by omega) p)
      exact s_isIn (fun p => absurd p qy) (fun _ => n0 (Ok.use hK ⟨rfl, h⟩))
  · exact s_isOfPass (fun p => absurd (by omega) q) (fun p => n0 (Ok.use hK ⟨rfl, h⟩))
