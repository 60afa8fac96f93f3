/-! ===== part: the step ===== -/
theorem mo_clean_code {I L : sk_S} (h : Inv I) {f c n : Nat} (en : I 44 1 = n) (h0n : 0 < n) (hf : f = 6 ∧ 6 ≤ n ∨ f = n ∧ n < 6) (e : ∀ a k : Int, a ≠ 46 → a ≠ 47 → a ≠ 49 → a ≠ 51 → a ≠ 53 → ¬ (a = 174 ∧ 0 ≤ k ∧ k < 10) → ¬ (a = 184 ∧ 0 ≤ k ∧ k < 10) → L a k = I a k) (d1 : ∀ i : Nat, i < f → L 174 i = dgt f c i) (d2 : ∀ i : Int, (f : Int) ≤ i → i < 10 → L 174 i = 0) {K : Int → sk_S → Prop} (h1 : (pfx (mmP I) f n f c ∧ oth I f n) ∧ noz I n → K 1 L) (h0 : ¬ ((pfx (mmP I) f n f c ∧ oth I f n) ∧ noz I n) → K 0 L) : M_Mo_isClean 0 K L := by
  have h5 := h.2.2.2.2.1
  obtain ⟨p1, p2, p3⟩ := pass_top h5
  obtain ⟨t1, t2⟩ := p3 (by omega)
  have f1 : ∀ a k : Int, a ≠ 46 → a ≠ 47 → a ≠ 49 → a ≠ 51 → a ≠ 53 → a ≠ 174 → a ≠ 184 → L a k = I a k := fun a k q1 q2 q3 q4 q5 q6 q7 => e a k q1 q2 q3 q4 q5 (by omega) (by omega)
  have hA : iAir L := h.2.2.1.cong fun a k d => by
    unfold dAir at d
    exact f1 a k (by omega) (by omega) (by omega) (by omega) (by omega) (by omega) (by omega)
  have eq : ∀ i : Int, 0 ≤ i → i < n → (∀ c : Int, 0 ≤ c → c < 3 → stM L 0 i c = stC I 44 i c ∧ spM L 0 i c = spC I 44 i c) ∧ wtM L 0 i = wtM L 0 i := fun i i1 i2 => by
    refine ⟨fun c c1 c2 => ?_, rfl⟩
    have g := (lp_eq h5 (i := i) ⟨i1, by omega⟩).1 c c1 c2
    rw [g.1, g.2]
    unfold stM spM
    rw [f1 (168 + c) _ (by omega) (by omega) (by omega) (by omega) (by omega) (by omega) (by omega), f1 (171 + c) _ (by omega) (by omega) (by omega) (by omega) (by omega) (by omega) (by omega)]
    exact ⟨rfl, rfl⟩
  have w0 : ∀ i : Int, wtM L 0 i = L 174 i := fun i => by
    unfold wtM
    rw [show 10 * 0 + i = i by omega]
  have fa := fit_all (mm := mmP I) (f := f) (n := n) (c := c) (w := wtM L 0) (by omega) (fun i hi => by rw [w0]; exact d1 i hi) (fun i i1 i2 => by rw [w0]; exact d2 i (by omega) (by omega))
  have cg : cleanP (I 44 2) (L 36 0) (stM L 0) (spM L 0) (wtM L 0) (L 36 1) (L 36 2) (L 36 3) n ↔ (pfx (mmP I) f n f c ∧ oth I f n) ∧ noz I n := by
    rw [cleanP_cong eq, f1 36 0 (by decide) (by decide) (by decide) (by decide) (by decide) (by decide) (by decide), f1 36 1 (by decide) (by decide) (by decide) (by decide) (by decide) (by decide) (by decide), f1 36 2 (by decide) (by decide) (by decide) (by decide) (by decide) (by decide) (by decide), f1 36 3 (by decide) (by decide) (by decide) (by decide) (by decide) (by decide) (by decide)]
    exact and_congr fa Iff.rfl
  rw [← cg] at h1 h0
  refine s_Mo_isClean (T := I 44 2) (n := n) (by decide) ?_ (by omega) (fun _ => ?_) (fun _ => t2) hA (fun i i1 i2 => ?_) (fun i i1 i2 => ?_) h1 h0
  · rw [f1 _ _ (by decide) (by decide) (by decide) (by decide) (by decide) (by decide) (by decide), ← p1]
    exact en
  · rw [f1 _ _ (by decide) (by decide) (by decide) (by decide) (by decide) (by decide) (by decide)]
    exact t1.symm
  · rw [w0]
    by_cases q : i < f
    · obtain ⟨k, rfl⟩ : ∃ k : Nat, i = k := ⟨i.toNat, by omega⟩
      rw [d1 k (by omega)]
      have := dgt_lt f c k
      omega
    · rw [d2 i (by omega) (by omega)]
      decide
  · intro c c1 c2
    have g := (eq i i1 i2).1 c c1 c2
    rw [g.1, g.2]
    exact lp_inC h5 (i := i) ⟨i1, by omega⟩ c c1 c2
theorem step_part {I : sk_S} (h : Inv I) {Q : Int → sk_S → Prop} (hQ : ∀ r I1, Two M_Mo_part r I1 → Q r I1) : M_Sky_part Q I := by
  obtain ⟨h1, h2, h3, h4, h5, h6, h7⟩ := id h
  obtain ⟨p1, p2, p3⟩ := pass_top h5
  by_cases z : I 44 1 = 0
  · exact bT z (hQ _ _ fun K hK => ⟨by decide, nF (by omega) (Ok.use hK ⟨rfl, h⟩)⟩)
  · refine bF z ?_
    obtain ⟨n, en⟩ : ∃ n : Nat, I 44 1 = n := ⟨(I 44 1).toNat, by omega⟩
    have h0n : 0 < n := by omega
    obtain ⟨f, hf⟩ : ∃ f : Nat, f = 6 ∧ 6 ≤ n ∨ f = n ∧ n < 6 := by
      by_cases q : n < 6
      · exact ⟨n, Or.inr ⟨rfl, q⟩⟩
      · exact ⟨6, Or.inl ⟨rfl, by omega⟩⟩
    -- the reference answers STATE where no delays part them
    have moN : ∀ (J : sk_S) (K : Int → sk_S → Prop), (∀ J, Inv J → K (-3) J) → (∀ a k : Int, a ≠ 47 → a ≠ 49 → a ≠ 51 → a ≠ 53 → J a k = I a k) → (∀ c : Nat, c < 4 ^ f → ¬ ((pfx (mmP I) f n f c ∧ oth I f n) ∧ noz I n)) → M_Mo_part K J := fun J K hK hJ no => by
      refine s_Mo_part (f := f) (n := n) (by rw [hJ _ _ (by decide) (by decide) (by decide) (by decide), ← p1]; exact en) h0n hf (fun M hM => s_partLoop (cc := fun _ => False) (by omega) hM (fun L c R hL hc l1 r1 r0 => ?_) (fun c _ w => absurd w (fun w => w)) (fun _ L hL => hK L (h.cong fun a k d => ?_)))
      · refine mo_clean_code h en h0n hf (fun a k q1 q2 q3 q4 q5 q6 q7 => by rw [hL.1 a k q6 q7]; exact hJ a k q2 q3 q4 q5) l1 hL.2.1 (fun w => absurd w (no c hc)) (fun _ => r0 (fun w => w))
      · unfold dAll dFly dFig dAir dTape dPass dShow dMark at d
        have := pic_top h
        rw [hL a k (by omega), hJ a k (by omega) (by omega) (by omega) (by omega)]
    refine s_isAnyInZone kdn_44 en (by omega) h3 (fun i i1 i2 => lp_inC h5 ⟨i1, by omega⟩) (fun q => z0 ?_) (fun q => z1 (hQ _ _ fun K hK => moN I K hK (fun _ _ _ _ _ _ => rfl) (fun c hc w => q w.2)))
    refine s_settle h en hf h0n (fun no J hJ => ⟨fun w => absurd rfl w, fun _ => hQ _ _ fun K hK => moN J K hK hJ (fun c hc w => no c hc w.1)⟩) (fun c hc y1 y2 best J hJ j46 j7 => ⟨fun _ => hQ _ _ fun K hK => ?_, fun w => by omega⟩)
    refine s_Mo_part (f := f) (n := n) (by rw [hJ _ _ (by decide) (by decide) (by decide) (by decide) (by decide), ← p1]; exact en) h0n hf (fun M hM => s_partLoop (cc := fun c => pfx (mmP I) f n f c ∧ oth I f n) (by omega) hM (fun L c R hL hc l1 r1 r0 => ?_) (fun c2 hc2 w best2 L hL l1 => ?_) (fun no => absurd ⟨y1, y2⟩ (no c hc)))
    · exact mo_clean_code h en h0n hf (fun a k q1 q2 q3 q4 q5 q6 q7 => by rw [hL.1 a k q6 q7]; exact hJ a k q1 q2 q3 q4 q5) l1 hL.2.1 (fun w => r1 w.1) (fun w => r0 fun w2 => w ⟨w2, q⟩)
    · have e1 := best c2 hc2 w.1
      have e2 := best2 c hc ⟨y1, y2⟩
      obtain rfl : c2 = c := by omega
      have e0 : ∀ a k : Int, a ≠ 46 → a ≠ 47 → a ≠ 49 → a ≠ 51 → a ≠ 53 → ¬ (a = 174 ∧ 0 ≤ k ∧ k < 10) → ¬ (a = 184 ∧ 0 ≤ k ∧ k < 10) → L a k = I a k := fun a k q1 q2 q3 q4 q5 q6 q7 => by rw [hL.1 a k q6 q7]; exact hJ a k q1 q2 q3 q4 q5
      have hp := pic_top h
      refine hK L ⟨h1.cong fun a k d => ?_, h2.cong fun a k d => ?_, h3.cong fun a k d => ?_, h4.cong fun a k d => ?_, ?_, h6.cong (by omega) (Or.inl ?_) (sameFig_of (fun a k d => ?_) (by omega)) (fun a k d => ?_), h7.cong fun a k d => ?_⟩
      · unfold dFly at d; exact e0 a k (by omega) (by omega) (by omega) (by omega) (by omega) (by omega) (by omega)
      · unfold dFig at d; exact e0 a k (by omega) (by omega) (by omega) (by omega) (by omega) (by omega) (by omega)
      · unfold dAir at d; exact e0 a k (by omega) (by omega) (by omega) (by omega) (by omega) (by omega) (by omega)
      · unfold dTape at d; exact e0 a k (by omega) (by omega) (by omega) (by omega) (by omega) (by omega) (by omega)
      · obtain ⟨g1, g2, g3, g4⟩ := h5
        unfold iPass
        have f0 : ∀ a k : Int, a ≠ 46 → a ≠ 47 → a ≠ 49 → a ≠ 51 → a ≠ 53 → a ≠ 174 → a ≠ 184 → L a k = I a k := fun a k q1 q2 q3 q4 q5 q6 q7 => e0 a k q1 q2 q3 q4 q5 (by omega) (by omega)
        have f46 : ∀ i c : Int, 0 ≤ c → c < 7 → L 46 (i * 8 + c) = I 46 (i * 8 + c) := fun i c c1 c2 => by rw [hL.1 _ _ (by omega) (by omega)]; exact j46 i c c1 c2
        rw [f0 44 1 (by decide) (by decide) (by decide) (by decide) (by decide) (by decide) (by decide), f0 44 2 (by decide) (by decide) (by decide) (by decide) (by decide) (by decide) (by decide), f0 176 0 (by decide) (by decide) (by decide) (by decide) (by decide) (by decide) (by decide), f0 175 0 (by decide) (by decide) (by decide) (by decide) (by decide) (by decide) (by decide)]
        refine ⟨g1, g2, g3, fun i i1 i2 => ?_⟩
        obtain ⟨k1, k2, k3⟩ := g4 i i1 i2
        rw [f46 i 6 (by decide) (by decide), f0 177 _ (by decide) (by decide) (by decide) (by decide) (by decide) (by decide) (by decide)]
        refine ⟨k1, ?_, fun c c1 c2 => ?_⟩
        · obtain ⟨k, rfl⟩ : ∃ k : Nat, i = k := ⟨i.toNat, by omega⟩
          rw [hL.1 46 _ (by omega) (by omega), j7 k (by omega)]
          by_cases q : k < f
          · rw [if_pos q, l1 k q]
            have := dgt_lt f c2 k
            exact ⟨rfl, by omega, by omega⟩
          · rw [if_neg q, hL.2.1 k (by omega) (by omega)]
            exact ⟨rfl, by decide, by decide⟩
        · have := k3 c c1 c2
          rw [f46 i c c1 (by omega), show i * 8 + 3 + c = i * 8 + (3 + c) by omega, f46 i (3 + c) (by omega) (by omega), f0 (168 + c) _ (by omega) (by omega) (by omega) (by omega) (by omega) (by omega) (by omega), f0 (171 + c) _ (by omega) (by omega) (by omega) (by omega) (by omega) (by omega) (by omega), show i * 8 + (3 + c) = i * 8 + 3 + c by omega]
          exact this
      · exact e0 _ _ (by omega) (by omega) (by omega) (by omega) (by omega) (by omega) (by omega)
      · exact e0 a k (by omega) (by omega) (by omega) (by omega) (by omega) (by omega) (by omega)
      · unfold dShow at d; exact e0 a k (by omega) (by omega) (by omega) (by omega) (by omega) (by omega) (by omega)
      · unfold dMark at d; exact e0 a k (by omega) (by omega) (by omega) (by omega) (by omega) (by omega) (by omega)
