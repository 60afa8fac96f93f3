/-! ===== pass ===== -/
theorem s_isPicture {x : Int} {Q : Int → sk_S → Prop} {I : sk_S} (h1 : x = -1 ∨ (0 ≤ x ∧ x < I 4 3) → Q 1 I) (h0 : ¬ (x = -1 ∨ (0 ≤ x ∧ x < I 4 3)) → Q 0 I) : M_Sky_isPicture x Q I :=
  ⟨fun q => h1 (Or.inl q), fun q => s_Gallery_has (fun p => z1 (h1 (Or.inr p))) (fun p => z0 (h0 (by omega)))⟩
theorem sz_pa {I : sk_S} (h : Inv I) {f : Int} (hf : -1 ≤ f ∧ f < I 4 3) : (if 0 ≤ f then I 162 f else I 158 8) = I (pa f) 1 := by
  unfold pa
  by_cases q : f < 0
  · rw [if_pos q, if_neg (by omega)]; exact h.1.1
  · rw [if_neg q, if_pos (by omega)]; exact (h.2.1.2.2 f (by omega) hf.2).1
theorem s_Mo_pass {x y z : Int} {K : Int → sk_S → Prop} {I : sk_S} (h1 : (x = -1 ∨ (0 ≤ x ∧ x < I 158 9)) → (y = -1 ∨ (0 ≤ y ∧ y < I 158 9)) → J_Mo_pass_28 x y z K I) (h0 : ¬ ((x = -1 ∨ (0 ≤ x ∧ x < I 158 9)) ∧ (y = -1 ∨ (0 ≤ y ∧ y < I 158 9))) → K (-1) I) : M_Mo_pass x y z K I := by
  have j13 : (x = -1 ∨ (0 ≤ x ∧ x < I 158 9)) → J_Mo_pass_13 x y z K I := fun hx =>
    ⟨fun q => h1 hx (Or.inl q), fun q => s_isFigure (fun p => n1 (h1 hx (Or.inr p))) (fun p => n0 (h0 (by omega)))⟩
  exact ⟨fun q => j13 (Or.inl q), fun q => s_isFigure (fun p => z1 (j13 (Or.inr p))) (fun p => z0 (h0 (by omega)))⟩
theorem step_pass {I : sk_S} (h : Inv I) (x y z : Int) {Q : Int → sk_S → Prop} (hQ : ∀ r I1, Two (M_Mo_pass x y z) r I1 → Q r I1) : M_Sky_pass x y z Q I := by
  have ht := pic_top h
  have e9 := h.2.1.1
  by_cases qx : x = -1 ∨ (0 ≤ x ∧ x < I 4 3)
  · refine s_isPicture (fun _ => z1 ?_) (fun p => absurd qx p)
    by_cases qy : y = -1 ∨ (0 ≤ y ∧ y < I 4 3)
    · refine s_isPicture (fun _ => n1 ?_) (fun p => absurd qy p)
      have hx : -1 ≤ x ∧ x < I 4 3 := by omega
      have hy : -1 ≤ y ∧ y < I 4 3 := by omega
      -- the reference comes to its sizes
      have mo : ∀ (J : sk_S) (K : Int → sk_S → Prop), J 158 9 = I 4 3 → J_Mo_pass_28 x y z K J → M_Mo_pass x y z K J := fun J K e k =>
        s_Mo_pass (fun _ _ => k) (fun p => absurd ⟨by omega, by omega⟩ p)
      by_cases qz : 1 ≤ z ∧ z ≤ 30
      · refine s_isWithin (fun _ => n1 (s_Gallery_at (by omega) ?_)) (fun p => absurd qz p)
        have mo28 : ∀ (J : sk_S) (K : Int → sk_S → Prop), (if 0 ≤ x then J 162 x else J 158 8) = I (pa x) 1 → J_Mo_pass_60 x y z (I (pa x) 1) K J → J_Mo_pass_28 x y z K J := fun J K e k => by
          refine s_isIn (fun _ => n1 ⟨fun q => ⟨by omega, ?_⟩, fun q => ?_⟩) (fun p => absurd qz p)
          · rw [if_pos q] at e; rw [e]; exact k
          · rw [if_neg q] at e; rw [e]; exact k
        refine ⟨fun c => hQ _ _ fun K hK => ?_, fun c => s_Gallery_at (by omega) ⟨fun c2 => s_Gallery_at (by omega) (s_Gallery_at (by omega) ?_), fun c2 => hQ _ _ fun K hK => ?_⟩⟩
        · exact mo _ _ e9 (mo28 _ _ (sz_pa h hx) (bT c (Ok.use hK ⟨rfl, h⟩)))
        · -- the pass
          have hs := pic_size h hx
          obtain ⟨n, en⟩ : ∃ n : Nat, I (pa x) 1 = n := ⟨(I (pa x) 1).toNat, by omega⟩
          have en2 : I (pa y) 1 = n := by rw [← c2]; exact en
          have hn : n < 11 := by omega
          have px : pa x < 37 := by unfold pa; split <;> omega
          have py : pa y < 37 := by unfold pa; split <;> omega
          have hnear : ∀ i j : Nat, i < n → j < n → near400 I (pa x) (pa y) i j := fun i j a b => near_of h hx hy (by omega) (by omega)
          refine s_lead kdn_44 (by decide) (kd_pa (by omega)) (kd_pa (by omega)) px py hn en en2 hnear (fun J hJ j1 j2 j3 => hQ _ _ fun K hK => ?_)
          have ewf : (fun i j : Nat => wv I (pa x) (pa y) i j) = wayf I x y := rfl
          rw [ewf] at j3 hK
          have hw : Wb (wayf I x y) n := fun i j a b => wv_rg (hnear i j a b)
          have eJ : ∀ a k, 47 ≤ a → J a k = I a k := fun a k q => hJ a k (by omega) (by omega) (by omega) (by omega) (by omega)
          have szJ : ∀ f : Int, -1 ≤ f ∧ f < I 4 3 → (if 0 ≤ f then J 162 f else J 158 8) = I (pa f) 1 := fun f hf => by
            rw [eJ 162 _ (by decide), eJ 158 _ (by decide)]; exact sz_pa h hf
          refine mo _ _ (by rw [eJ _ _ (by decide)]; exact e9) (mo28 _ _ (szJ x hx) (bF c ?_))
          have j86 : J_Mo_pass_86 x y z (I (pa x) 1) (I (pa x) 1) (I (pa y) 1) K J := by
            rw [en, en2]
            refine bT rfl (s_begins (by decide) (by omega) (by omega) hn (by rw [szJ y hy]; exact en2) (fun L hL l1 l2 l3 => ?_))
            have lc : ∀ k : Nat, k < n → (∀ c : Int, 0 ≤ c → c < 3 → L (168 + c) (10 * 0 + k) = pc I x k c ∧ L (171 + c) (10 * 0 + k) = pc I y k c) ∧ L 174 (10 * 0 + k) = 0 := fun k hk => by
              obtain ⟨g1, g2⟩ := l3 k hk
              refine ⟨fun c c1 c2 => ?_, g2⟩
              have := g1 c c1 c2
              rw [pm_cong (fun a k q _ => eJ a k (by omega)), pm_cong (fun a k q _ => eJ a k (by omega)), pm_pc h hx (by omega) ⟨c1, c2⟩, pm_pc h hy (by omega) ⟨c1, c2⟩] at this
              exact this
            have lnear : ∀ i j : Nat, i < n → j < n → nearM L 0 i j := fun i j a b c c1 c2 => by
              rw [((lc i a).1 c c1 c2).1, ((lc j b).1 c c1 c2).2]
              exact hnear i j a b c c1 c2
            have lw : ∀ i j : Nat, i < n → j < n → wM L 0 i j = wayf I x y i j := fun i j a b => by
              have d0 := (lc i a).1 0 (by decide) (by decide)
              have d1 := (lc i a).1 1 (by decide) (by decide)
              have d2 := (lc i a).1 2 (by decide) (by decide)
              have f0 := (lc j b).1 0 (by decide) (by decide)
              have f1 := (lc j b).1 1 (by decide) (by decide)
              have f2 := (lc j b).1 2 (by decide) (by decide)
              unfold wM wayf
              rw [← d0.1, ← d1.1, ← d2.1, ← f0.2, ← f1.2, ← f2.2]
              rfl
            refine s_assigns (w := wayf I x y) (by decide) hn l2 lnear lw (fun M hM m1 => ?_)
            -- who goes where is kept
            have gk : ∀ N : sk_S, (∀ a k, a ≠ 177 → N a k = M a k) → (∀ i : Nat, i < n → N 177 i = (goalf (wayf I x y) n i : Nat)) → K (needf (wayf I x y) n n 0) N := by
              intro N hN hg
              have eN : ∀ a k, a ≠ 39 → a ≠ 41 → a ≠ 43 → ¬ (a = 44 ∧ (k = 1 ∨ k = 2)) → a ≠ 46 → a ≠ 177 → ¬ (178 ≤ a ∧ a ≤ 183) → ¬ (168 ≤ a ∧ a ≤ 174 ∧ 0 ≤ k ∧ k < 10) → ¬ ((a = 175 ∨ a = 176) ∧ k = 0) → N a k = I a k := fun a k q1 q2 q3 q4 q5 q6 q7 q8 q9 => by
                rw [hN a k q6, hM a k q7 (by omega), hL a k (by omega) q9]
                exact hJ a k q1 q2 q3 q4 q5
              obtain ⟨h1, h2, h3, h4, h5, h6, h7⟩ := id h
              refine Ok.use hK ⟨rfl, h1.cong fun a k d => ?_, h2.cong fun a k d => ?_, h3.cong fun a k d => ?_, h4.cong fun a k d => ?_, ?_, h6.cong (by omega) (Or.inl ?_) (sameFig_of (fun a k d => ?_) (by omega)) (fun a k d => ?_), h7.cong fun a k d => ?_⟩
              · unfold dFly at d; exact eN a k (by omega) (by omega) (by omega) (by omega) (by omega) (by omega) (by omega) (by omega) (by omega)
              · unfold dFig at d; exact eN a k (by omega) (by omega) (by omega) (by omega) (by omega) (by omega) (by omega) (by omega) (by omega)
              · unfold dAir at d; exact eN a k (by omega) (by omega) (by omega) (by omega) (by omega) (by omega) (by omega) (by omega) (by omega)
              · unfold dTape at d; exact eN a k (by omega) (by omega) (by omega) (by omega) (by omega) (by omega) (by omega) (by omega) (by omega)
              · have n1 : N 44 1 = n := by rw [hN _ _ (by decide), hM _ _ (by omega) (by omega), hL _ _ (by omega) (by omega)]; exact j1
                have n2 : N 44 2 = z := by rw [hN _ _ (by decide), hM _ _ (by omega) (by omega), hL _ _ (by omega) (by omega)]; exact j2
                have n3 : N 176 0 = n := by rw [hN _ _ (by decide), hM _ _ (by omega) (by omega)]; exact l2
                have n4 : N 175 0 = z := by rw [hN _ _ (by decide), hM _ _ (by omega) (by omega)]; exact l1
                unfold iPass
                rw [n1, n2, n3, n4]
                refine ⟨rfl, ⟨by omega, by omega⟩, fun _ => ⟨rfl, qz⟩, fun i i1 i2 => ?_⟩
                obtain ⟨k, rfl⟩ : ∃ k : Nat, i = k := ⟨i.toNat, by omega⟩
                have hk : k < n := by omega
                have hlt := goalf_lt hn hw hk
                have n46 : ∀ t, N 46 t = J 46 t := fun t => by rw [hN _ _ (by decide), hM _ _ (by omega) (by omega), hL _ _ (by omega) (by omega)]
                obtain ⟨a1, a2, a3⟩ := j3 k hk
                rw [show (44 : Int) + 2 = 46 from rfl] at a1 a2 a3
                rw [hg k hk]
                have e174 : N 174 k = 0 := by
                  rw [hN _ _ (by decide), hM _ _ (by omega) (by omega)]
                  have := (lc k hk).2
                  rwa [show (10 * 0 + (k : Int)) = k by omega] at this
                refine ⟨⟨by rw [n46]; exact a2, by omega, by omega⟩, ⟨by rw [n46, e174]; exact a3, by rw [e174]; exact ⟨by decide, by decide⟩⟩, fun c c1 c2 => ?_⟩
                have b1 : N (168 + c) k = pc I x k c := by
                  rw [hN _ _ (by omega), hM _ _ (by omega) (by omega)]
                  have := ((lc k hk).1 c c1 c2).1
                  rwa [show (10 * 0 + (k : Int)) = k by omega] at this
                have b2 : N (171 + c) k = pc I y (goalf (wayf I x y) n k : Nat) c := by
                  rw [hN _ _ (by omega)]
                  have := (m1 k hk).2 c c1 c2
                  rw [((lc _ hlt).1 c c1 c2).2] at this
                  rwa [show (10 * 0 + (k : Int)) = k by omega] at this
                rw [b1, b2, n46, n46]
                exact ⟨a1 c c1 c2, pc_rg h hx (by omega) ⟨c1, c2⟩, pc_rg h hy (by omega) ⟨c1, c2⟩⟩
              · exact eN _ _ (by omega) (by omega) (by omega) (by omega) (by omega) (by omega) (by omega) (by omega) (by omega)
              · exact eN a k (by omega) (by omega) (by omega) (by omega) (by omega) (by omega) (by omega) (by omega) (by omega)
              · unfold dShow at d; exact eN a k (by omega) (by omega) (by omega) (by omega) (by omega) (by omega) (by omega) (by omega) (by omega)
              · unfold dMark at d; exact eN a k (by omega) (by omega) (by omega) (by omega) (by omega) (by omega) (by omega) (by omega) (by omega)
            intro X hX
            have key : ∀ (m i : Nat) (N : sk_S), m + i = n → (∀ a k, a ≠ 177 → N a k = M a k) → (∀ b : Nat, b < i → N 177 b = (goalf (wayf I x y) n b : Nat)) → X i N := by
              intro m
              induction m with
              | zero =>
                intro i N k1 k2 k3
                obtain rfl : i = n := by omega
                exact hX _ _ (bT (by omega) (gk N k2 k3))
              | succ m ih =>
                intro i N k1 k2 k3
                refine hX _ _ (bF (by omega) ⟨by omega, by omega, by omega, nm ?_⟩)
                rw [k2 180 _ (by decide), (m1 i (by omega)).1]
                exact ih (i + 1) _ (by omega) (fun a k q => by rw [up_o (by omega)]; exact k2 a k q) (fun b hb => by
                  by_cases e : b = i
                  · subst e; rw [up_h]
                  · rw [up_o (by omega)]; exact k3 b (by omega))
            exact key n 0 M rfl (fun _ _ _ => rfl) (fun b hb => absurd hb (Nat.not_lt_zero b))
          refine ⟨fun q => ⟨by omega, ?_⟩, fun q => ?_⟩
          · have := szJ y hy
            rw [if_pos q] at this
            rw [this]; exact j86
          · have := szJ y hy
            rw [if_neg q] at this
            rw [this]; exact j86
        · refine mo _ _ e9 (mo28 _ _ (sz_pa h hx) (bF c ⟨fun q => ⟨by omega, ?_⟩, fun q => ?_⟩))
          · have := sz_pa h hy
            rw [if_pos q] at this
            rw [this]; exact bF c2 (Ok.use hK ⟨rfl, h⟩)
          · have := sz_pa h hy
            rw [if_neg q] at this
            rw [this]; exact bF c2 (Ok.use hK ⟨rfl, h⟩)
      · refine s_isWithin (fun p => absurd p qz) (fun _ => n0 (hQ _ _ fun K hK => ?_))
        exact mo _ _ e9 (s_isIn (fun p => absurd p qz) (fun _ => n0 (Ok.use hK ⟨rfl, h⟩)))
    · refine s_isPicture (fun p => absurd p qy) (fun _ => n0 (hQ _ _ fun K hK => ?_))
      exact s_Mo_pass (fun _ p => absurd (by omega) qy) (fun _ => Ok.use hK ⟨rfl, h⟩)
  · refine s_isPicture (fun p => absurd p qx) (fun _ => z0 (hQ _ _ fun K hK => ?_))
    exact s_Mo_pass (fun p _ => absurd (by omega) qx) (fun _ => Ok.use hK ⟨rfl, h⟩)
