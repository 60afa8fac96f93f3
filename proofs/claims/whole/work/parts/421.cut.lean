/-! ===== cut, stands, length ===== -/
theorem s_Show_has {x : Int} {Q : Int → sk_S → Prop} {I : sk_S} (h1 : 0 ≤ x ∧ x < I 54 3 → Q 1 I) (h0 : ¬ (0 ≤ x ∧ x < I 54 3) → Q 0 I) : M_Show_has x Q I :=
  ⟨fun q => h0 (by omega), fun q => ⟨fun r => h0 (by omega), fun r => h1 (by omega)⟩⟩
theorem s_isScene {x : Int} {Q : Int → sk_S → Prop} {I : sk_S} (h1 : 0 ≤ x ∧ x < I 158 41 → Q 1 I) (h0 : ¬ (0 ≤ x ∧ x < I 158 41) → Q 0 I) : M_Mo_isScene x Q I :=
  ⟨fun q => h0 (by omega), fun q => ⟨fun r => h0 (by omega), fun r => h1 (by omega)⟩⟩
theorem s_Mo_isFlyer {x : Int} {Q : Int → sk_S → Prop} {I : sk_S} (h1 : 0 ≤ x ∧ x < I 158 8 → Q 1 I) (h0 : ¬ (0 ≤ x ∧ x < I 158 8) → Q 0 I) : M_Mo_isFlyer x Q I :=
  ⟨fun q => h0 (by omega), fun q => ⟨fun r => h0 (by omega), fun r => h1 (by omega)⟩⟩
theorem s_isFlyer {x : Int} {Q : Int → sk_S → Prop} {I : sk_S} (h1 : 0 ≤ x ∧ x < I 5 1 → Q 1 I) (h0 : ¬ (0 ≤ x ∧ x < I 5 1) → Q 0 I) : M_Sky_isFlyer x Q I :=
  s_Gallery_at (x := -1) (by omega) (s_Places_has (p := 5) h1 h0)
theorem s_Show_at {x : Int} {Q : Int → sk_S → Prop} {I : sk_S} (hx : 0 ≤ x ∧ x < 12) (h : Q (65 + 7 * x) I) : M_Show_at x Q I :=
  bF (by omega) (bF (by omega) ⟨hx, h⟩)
theorem show_top {I : sk_S} (h : Inv I) : 0 ≤ I 54 3 ∧ I 54 3 ≤ 12 := h.2.2.2.2.2.1.2.1
theorem fly_top {I : sk_S} (h : Inv I) : 0 ≤ I 5 1 ∧ I 5 1 ≤ 10 := h.1.2.1
theorem iShow_less {I J : sk_S} (h : iShow I) (h48 : I 4 3 ≤ 8) (e5 : J 5 1 = I 5 1) (e43 : J 4 3 = I 4 3) (n : Int) (hn : 0 ≤ n ∧ n ≤ I 54 3) (e1 : J 54 3 = n) (e2 : J 158 41 = n) (e : ∀ a k, ¬ (a = 54 ∧ k = 3) → ¬ (a = 158 ∧ k = 41) → J a k = I a k) : iShow J := by
  obtain ⟨g1, g2, g3⟩ := h
  have g2' := g2
  unfold rg at g2'
  unfold iShow
  rw [e1, e2, e5, e43]
  refine ⟨rfl, ⟨by omega, by omega⟩, fun s s1 s2 => ?_⟩
  have k := g3 s s1 (by omega)
  have es : ∀ a k, 55 ≤ a → a ≤ 157 → J a k = I a k := fun a k q1 q2 => e a k (by omega) (by omega)
  have el : ∀ a k, 159 ≤ a → J a k = I a k := fun a k q => e a k (by omega) (by omega)
  have ep : ∀ a k, a ≤ 36 → J a k = I a k := fun a k q => e a k (by omega) (by omega)
  have hpr : pr J s = pr I s := by
    unfold pr
    split
    · rfl
    · exact es _ _ (by omega) (by omega)
  have hsa : ∀ f, sa J s f = sa I s f := fun f => by
    unfold sa
    split
    · rfl
    · exact el _ _ (by omega)
  have hf := k.1.1.2
  have e12 : J (12 + 3 * I (65 + 7 * s) 2) 1 = I (12 + 3 * I (65 + 7 * s) 2) 1 := e _ _ (by omega) (by omega)
  have hsame : sameFig I J := fun f q1 q2 k => by
    refine ⟨e _ _ ?_ ?_, e _ _ ?_ ?_⟩ <;> (unfold pa; split <;> omega)
  have hpp : -1 ≤ pr I s ∧ pr I s < I 4 3 := by
    unfold pr
    split
    · omega
    · have := (g3 (s - 1) (by omega) (by omega)).1.1
      omega
  rw [es (65 + 7 * s) 2 (by omega) (by omega), e12, el 185 _ (by omega), es (66 + 7 * s) _ (by omega) (by omega), es (69 + 7 * s) _ (by omega) (by omega), el 186 _ (by omega), es (65 + 7 * s) 3 (by omega) (by omega), es (65 + 7 * s) 4 (by omega) (by omega), el 187 _ (by omega), el 188 _ (by omega), hpr]
  refine ⟨k.1, k.2.1.cong hsame hpp (by omega) (es _ _ (by omega) (by omega)) (fun t => es _ _ (by omega) (by omega)), k.2.2.1.cong hsame (by omega) (by omega) (es _ _ (by omega) (by omega)) (fun t => es _ _ (by omega) (by omega)), fun f f1 f2 => ?_⟩
  rw [hsa, gl_cong hsame hpp (by omega), el 189 _ (by omega)]
  exact k.2.2.2 f f1 f2
theorem step_cut {I : sk_S} (h : Inv I) {Q : Int → sk_S → Prop} (hQ : ∀ r I1, Two M_Mo_cut r I1 → Q r I1) : M_Sky_cut Q I := by
  obtain ⟨h1, h2, h3, h4, h5, h6, h7⟩ := id h
  have ht := show_top h
  have hp := pic_top h
  have s1 := h6.1
  refine ⟨fun q => ⟨by omega, hQ _ _ fun K hK => ?_⟩, fun q => hQ _ _ fun K hK => ?_⟩
  · have e1 : up I 54 3 (I 54 3 - 1) 158 41 = I 54 3 := by rw [up_o (by omega)]; exact s1.symm
    refine nT (by rw [e1]; exact q) ?_
    rw [e1]
    have e2 : ∀ a k, ¬ (a = 54 ∧ k = 3) → ¬ (a = 158 ∧ k = 41) → up (up I 54 3 (I 54 3 - 1)) 158 41 (I 54 3 - 1) a k = I a k := fun a k q1 q2 => by rw [up_o q2, up_o q1]
    refine ⟨by omega, Ok.use hK ⟨?_, h1.cong fun a k d => ?_, h2.cong fun a k d => ?_, h3.cong fun a k d => ?_, h4.cong fun a k d => ?_, h5.cong fun a k d => ?_, iShow_less h6 hp.2 (e2 _ _ (by omega) (by omega)) (e2 _ _ (by omega) (by omega)) (I 54 3 - 1) (by omega) ?_ ?_ e2, h7.cong fun a k d => ?_⟩⟩
    · rw [up_h, up_h]
    · unfold dFly at d; exact e2 a k (by omega) (by omega)
    · unfold dFig at d; exact e2 a k (by omega) (by omega)
    · unfold dAir at d; exact e2 a k (by omega) (by omega)
    · unfold dTape at d; exact e2 a k (by omega) (by omega)
    · unfold dPass at d; exact e2 a k (by omega) (by omega)
    · rw [up_o (by omega), up_h]
    · rw [up_h]
    · unfold dMark at d; exact e2 a k (by omega) (by omega)
  · exact nF (by omega) (Ok.use hK ⟨rfl, h⟩)
