/-! ===== first: the step ===== -/
theorem iMark_who {I J : sk_S} (h : iMark I) (e : ∀ a k : Int, dMark a k → ¬ ((a = 149 ∧ (k = 5 ∨ k = 6)) ∨ (a = 158 ∧ (k = 49 ∨ k = 50))) → J a k = I a k) (w1 : J 149 5 = J 158 49) (w2 : J 149 6 = J 158 50) : iMark J := by
  unfold iMark at *
  unfold dMark at e
  have e191 : ∀ k, J 191 k = I 191 k := fun k => e _ _ (by omega) (by omega)
  rw [e 149 4 (by omega) (by omega), e 158 48 (by omega) (by omega)]
  obtain ⟨g1, g2, g3, g4, g5, g6⟩ := h
  refine ⟨g1, ⟨w1, w2⟩, fun k h1 h2 => ?_, fun j k h1 h2 h3 h4 => ?_, fun f h1 h2 => ?_, fun k h1 h2 => ?_⟩
  · rw [e 151 _ (by omega) (by omega), e 151 _ (by omega) (by omega), e 151 _ (by omega) (by omega), e 151 _ (by omega) (by omega), e 193 _ (by omega) (by omega), e 194 _ (by omega) (by omega), e 195 _ (by omega) (by omega), e 192 _ (by omega) (by omega), e191]
    exact g3 k h1 h2
  · rw [e191, e191] at h4
    rw [e 192 _ (by omega) (by omega), e 192 _ (by omega) (by omega)]
    exact g4 j k h1 h2 h3 h4
  · rw [e 153 _ (by omega) (by omega), e 155 _ (by omega) (by omega)]
    exact ⟨(g5 f h1 h2).1.cong e191, (g5 f h1 h2).2.cong e191⟩
  · rw [e191, e 151 _ (by omega) (by omega)]
    exact (g6 k h1 h2).cong e191
theorem mk_fun (I : sk_S) (n t : Int) : ∃ w : Int → Int, ∀ f : Int, mk I n f t (w f) := ⟨fun f => Classical.choose (mk_ex I n f t), fun f => Classical.choose_spec (mk_ex I n f t)⟩
theorem step_first {I : sk_S} (h : Inv I) {Q : Int → sk_S → Prop} (hQ : ∀ r I1, Two M_Mo_first r I1 → Q r I1) : M_Sky_first Q I := by
  obtain ⟨h1, h2, h3, h4, h5, h6, h7⟩ := id h
  have hp := pic_top h
  have hn := mark_top h7
  have hi : incr I (I 149 4) := h7.2.2.2.1
  obtain ⟨N, eN⟩ : ∃ N : Nat, I 149 4 = N := ⟨(I 149 4).toNat, by omega⟩
  -- what the reference answers, told at the end
  have endF : ∀ r x y : Int, refF I (-1) r x y → ∀ J : sk_S, CJ I J → Q r (up (up J 149 5 x) 149 6 y) := fun r x y g J hJ => hQ _ _ fun K hK => by
    have s0 : ∀ a k : Int, a ≠ 157 → ¬ (a = 149 ∧ (k = 5 ∨ k = 6)) → up (up J 149 5 x) 149 6 y a k = I a k := fun a k q1 q2 => by rw [up_o (by omega), up_o (by omega)]; exact hJ a k q1
    refine g K _ (fun a k q1 q2 q3 q4 => s0 a k (by omega) (by omega)) (fun M hM m1 m2 => hK M ?_)
    have e0 : ∀ a k : Int, a ≠ 157 → a ≠ 196 → a ≠ 197 → ¬ (a = 149 ∧ (k = 5 ∨ k = 6)) → ¬ (a = 158 ∧ (k = 49 ∨ k = 50)) → M a k = I a k := fun a k q1 q2 q3 q4 q5 => by rw [hM a k q2 q3 q5, s0 a k q1 q4]
    refine ⟨h1.cong fun a k d => ?_, h2.cong fun a k d => ?_, h3.cong fun a k d => ?_, h4.cong fun a k d => ?_, h5.cong fun a k d => ?_, h6.cong (by omega) (Or.inl ?_) (sameFig_of (fun a k d => ?_) (by omega)) (fun a k d => ?_), iMark_who h7 (fun a k d q => ?_) ?_ ?_⟩
    · unfold dFly at d; exact e0 a k (by omega) (by omega) (by omega) (by omega) (by omega)
    · unfold dFig at d; exact e0 a k (by omega) (by omega) (by omega) (by omega) (by omega)
    · unfold dAir at d; exact e0 a k (by omega) (by omega) (by omega) (by omega) (by omega)
    · unfold dTape at d; exact e0 a k (by omega) (by omega) (by omega) (by omega) (by omega)
    · unfold dPass at d; exact e0 a k (by omega) (by omega) (by omega) (by omega) (by omega)
    · exact e0 _ _ (by omega) (by omega) (by omega) (by omega) (by omega)
    · exact e0 a k (by omega) (by omega) (by omega) (by omega) (by omega)
    · unfold dShow at d; exact e0 a k (by omega) (by omega) (by omega) (by omega) (by omega)
    · unfold dMark at d; exact e0 a k (by omega) (by omega) (by omega) (by omega) (by omega)
    · rw [m1, hM _ _ (by decide) (by decide) (by omega), up_o (by omega), up_h]
    · rw [m2, hM _ _ (by decide) (by decide) (by omega), up_h]
  have endN : refN I (-1) → ∀ J : sk_S, CJ I J → Q (-1) J := fun g J hJ => hQ _ _ fun K hK => by
    refine g K J (fun a k q1 q2 q3 q4 => hJ a k (by omega)) (fun M hM => hK M (h.cong fun a k d => ?_))
    unfold dAll dFly dFig dAir dTape dPass dShow dMark at d
    rw [hM a k (by omega) (by omega)]
    exact hJ a k (by omega)
  have l157 : ln (156 + 1) = 10 := lnn_157
  have l153 : ln (152 + 1) = 10 := lnn_153
  intro X hX
  -- the rounds
  have rounds : ∀ J : sk_S, CJ I J → (∀ f : Int, 0 ≤ f → f < 10 → cur I (I 149 4) f (-1) (J 157 f)) → J_Foreign_firstClash_30 (fun r_8 I_8 => Q r_8 I_8) J := by
    intro J0 hJ0 hc0 Y hY
    have key : ∀ (m k : Nat) (last : Int) (J : sk_S), m + k = N → CJ I J → (∀ f : Int, 0 ≤ f → f < 10 → cur I (I 149 4) f last (J 157 f)) → cnt I last N + k ≤ N → (∀ r x y : Int, refF I last r x y → ∀ J : sk_S, CJ I J → Q r (up (up J 149 5 x) 149 6 y)) → (refN I last → ∀ J : sk_S, CJ I J → Q (-1) J) → Y k J := by
      intro m
      induction m with
      | zero =>
        intro k last J q1 q2 q3 q4 q5 q6
        have z : cnt I last N = 0 := by omega
        refine hY _ _ (bT (by rw [q2 _ _ (by decide)]; omega) (q6 (ref_end h7 (Or.inl ⟨rfl, fun j j1 j2 => ?_⟩)) J q2))
        obtain ⟨i, rfl⟩ : ∃ i : Nat, j = i := ⟨j.toNat, by omega⟩
        exact cnt_0 N z i (by omega)
      | succ m ih =>
        intro k last J q1 q2 q3 q4 q5 q6
        refine hY _ _ (bF (by rw [q2 _ _ (by decide)]; omega) (s_leastTick h7 q2 q3 (fun t ht => ?_)))
        have crg : ∀ f : Int, 0 ≤ f → f < 10 → J 157 f = -1 ∨ (0 ≤ J 157 f ∧ J 157 f < I 149 4) := fun f f1 f2 => by
          rcases q3 f f1 f2 with c | c
          · exact Or.inl c.1
          · exact Or.inr ⟨c.1, c.2.1⟩
        rcases id ht with ⟨t1, t2⟩ | ⟨t1, t2, t3, t4⟩
        · -- behind all marks
          subst t1
          have c0 : ∀ f : Int, 0 ≤ f → f < 10 → J 157 f = -1 := fun f f1 f2 => by
            rcases q3 f f1 f2 with c | c
            · exact c.1
            · have := t2 _ c.1 c.2.1
              omega
          have no : ∀ (f t : Int), 1000 ≤ t → mk I (I 149 4) f t (-1) := fun f t ht => Or.inl ⟨rfl, fun j j1 j2 _ => by have := (tick_rg h7 ⟨j1, j2⟩).1; omega⟩
          have hA : atT I J 1000 (fun _ => -1) (fun _ => -1) := fun f f1 f2 => ⟨⟨fun w => absurd (c0 f f1 f2) w.1, fun _ => rfl⟩, crg f f1 f2, no f 1000 (by omega), no f (1000 + 1) (by omega)⟩
          refine s_isClashAt h7 h3 q2 hA (fun _ => z0 (s_goBehind h7 q2 crg (fun L hL hl => ⟨by omega, nm (ih (k + 1) last L (by omega) hL (fun f f1 f2 => ?_) ?_ q5 q6)⟩))) (fun x y w => ?_)
          · rw [(hl f f1 f2).2 (fun w => w.1 (c0 f f1 f2))]
            exact q3 f f1 f2
          · rw [cnt_z N (fun j hj => t2 j (by omega) (by omega))]
            omega
          · exfalso
            rcases w.2.2 with v | v
            · exact absurd (show (0 : Int) ≤ -1 from v.1.1) (by decide)
            · exact absurd (show (0 : Int) ≤ -1 from v.2.2.2.1.1) (by decide)
        · obtain ⟨nw, hnw⟩ := mk_fun I (I 149 4) t
          obtain ⟨th, hth⟩ := mk_fun I (I 149 4) (t + 1)
          have h9 : 0 ≤ t ∧ t ≤ 999 := by
            obtain ⟨j, j1, j2, j3⟩ := t3
            have := (tick_rg h7 ⟨j1, j2⟩).1
            omega
          have hmk : ∀ f : Int, 0 ≤ f → f < 10 → mk I (I 149 4) f t (nw f) ∧ mk I (I 149 4) f (t + 1) (th f) := fun f _ _ => ⟨hnw f, hth f⟩
          have hA : atT I J t nw th := fun f f1 f2 => ⟨cur_mk hi (q3 f f1 f2) ⟨t2, t4⟩ (hnw f), crg f f1 f2, hnw f, hth f⟩
          refine s_isClashAt h7 h3 q2 hA (fun hN => z0 (s_goBehind h7 q2 crg (fun L hL hl => ⟨by omega, nm (ih (k + 1) t L (by omega) hL (fun f f1 f2 => ?_) ?_ (fun r x y g => q5 r x y ((ref_step h7 h3 ht h9 hmk hN).1 r x y g)) (fun g => q6 ((ref_step h7 h3 ht h9 hmk hN).2 g)))⟩))) (fun x y w => z1 (q5 t x y (ref_found h7 h3 ht h9 hmk w) J q2))
          · by_cases c : J 157 f ≠ -1 ∧ I 192 (J 157 f) = t
            · rw [(hl f f1 f2).1 c]
              have hr : 0 ≤ J 157 f ∧ J 157 f < I 149 4 ∧ I 191 (J 157 f) = f := by
                rcases q3 f f1 f2 with v | v
                · exact absurd v.1 c.1
                · exact ⟨v.1, v.2.1, v.2.2.1⟩
              have g6 := h7.2.2.2.2.2 (J 157 f) hr.1 hr.2.1
              rw [hr.2.2] at g6
              exact cur_nx hi (q3 f f1 f2) t2 c g6
            · rw [(hl f f1 f2).2 c]
              exact cur_stay (q3 f f1 f2) ⟨t2, t4⟩ c
          · obtain ⟨j, j1, j2, j3⟩ := t3
            have := cnt_lt (I := I) (last := last) (t := t) t2 N ⟨j.toNat, by omega, by rw [show ((j.toNat : Nat) : Int) = j by omega]; exact j3⟩
            omega
    have c0 := cnt_le I (-1) N
    exact key N 0 (-1) J0 rfl hJ0 hc0 (by omega) endF endN
  -- the cursors
  have fill : ∀ (m : Nat) (f : Int) (J : sk_S), f + m = 10 → 0 ≤ f → CJ I J → (∀ g : Int, 0 ≤ g → g < f → J 157 g = I 153 g) → X f J := by
    intro m
    induction m with
    | zero =>
      intro f J q1 q2 q3 q4
      obtain rfl : f = 10 := by omega
      refine hX _ _ (bT (by decide) (rounds J q3 fun g g1 g2 => ?_))
      rw [q4 g g1 g2]
      rcases (h7.2.2.2.2.1 g g1 g2).1 with w | w
      · exact Or.inl ⟨w.1, fun j j1 j2 j3 => absurd j3 (w.2 j j1 j2)⟩
      · have := (tick_rg h7 (m := I 153 g) ⟨w.1, w.2.1⟩).1
        exact Or.inr ⟨w.1, w.2.1, w.2.2.1, by omega, fun j j1 j2 j3 => absurd j3 (w.2.2.2 j j1 j2)⟩
    | succ m ih =>
      intro f J q1 q2 q3 q4
      refine hX _ _ (bF (by omega) (s_Row_at (by rw [l153]; omega) (s_Row_put (by rw [l157]; omega) ⟨by omega, nm ?_⟩)))
      rw [show (156 : Int) + 1 = 157 from rfl, show (152 : Int) + 1 = 153 from rfl]
      refine ih (f + 1) _ (by omega) (by omega) (fun a k w => by rw [up_o (by omega)]; exact q3 a k w) (fun g g1 g2 => ?_)
      by_cases c : g = f
      · subst c
        rw [up_h]
        exact q3 _ _ (by decide)
      · rw [up_o (by omega)]
        exact q4 g g1 (by omega)
  exact fill 10 0 I (by omega) (by omega) (fun _ _ _ => rfl) (fun g g1 g2 => by omega)
