/-! ===== the class plans ===== -/
theorem s_needWith {w : Nat → Nat → Int} {n s j : Nat} {Q : Int → sk_S → Prop} {I : sk_S} (hn : n < 11) (hs : s < 2 ^ n) (hp : pop s < n) (hj : j < n) (hb : s.testBit j = false)
    (hW : ∀ a b : Nat, a < n → b < n → I 39 ((a : Int) * 10 + b) = w a b) (hT : ∀ t : Nat, s < t → t < 2 ^ n → I 41 t = needf w n (n - pop t) t)
    (h : Q (imax (w (pop s) j) (needf w n (n - (pop s + 1)) (s ||| 2 ^ j))) I) : M_Planner_needWith s j Q I := by
  have h1 := lt_1024 hn hs
  have h2 := pop_or hn hs hj hb
  have h3 := or_lt hs hj
  have h4 := lt_1024 hn h3
  refine s_bitCount h1 ⟨by omega, s_Row_at (by rw [show (38 : Int) + 1 = 39 from rfl, lnn_39]; omega) ?_⟩
  rw [b_or0 s h1 j (by omega)]
  refine s_Row_at (by rw [show (40 : Int) + 1 = 41 from rfl, lnn_41]; omega) ?_
  rw [show (38 : Int) + 1 = 39 from rfl, show (40 : Int) + 1 = 41 from rfl, hW _ _ hp hj, hT _ h2.2 h3, h2.1]
  exact h
theorem s_weigh {w : Nat → Nat → Int} {n : Nat} {Q : sk_S → Prop} {I : sk_S} (hn : n < 11) (hW : ∀ a b : Nat, a < n → b < n → I 39 ((a : Int) * 10 + b) = w a b)
    (h : ∀ J : sk_S, (∀ a k, a ≠ 41 → J a k = I a k) → (∀ t : Nat, t < 2 ^ n → J 41 t = needf w n (n - pop t) t) → Q J) : M_Planner_weigh n Q I := by
  have e := b_top n hn
  have hpow : 0 < 2 ^ n := Nat.two_pow_pos n
  have hle : 2 ^ n ≤ 1024 := Nat.pow_le_pow_right (by decide) (show n ≤ 10 by omega)
  unfold M_Planner_weigh
  rw [e]
  refine ⟨by omega, nm (s_Row_put (by rw [show (40 : Int) + 1 = 41 from rfl, lnn_41]; omega) ⟨by omega, nm ?_⟩)⟩
  intro X hX
  have key : ∀ (t : Nat) (J : sk_S), t ≤ 2 ^ n - 1 → (∀ a k, a ≠ 41 → J a k = I a k) → (∀ s : Nat, t ≤ s → s < 2 ^ n → J 41 s = needf w n (n - pop s) s) → X ((t : Int) - 1) J := by
    intro t
    induction t with
    | zero =>
      intro J h1 h2 h3
      exact hX _ _ (bT (by omega) (h J h2 (fun s hs => h3 s (by omega) hs)))
    | succ t ih =>
      intro J h1 h2 h3
      rw [show ((t + 1 : Nat) : Int) - 1 = t by omega]
      have ht : t < 2 ^ n := by omega
      have h1024 := lt_1024 hn ht
      have hpn : pop t < n := by
        rcases Nat.lt_or_ge (pop t) n with q | q
        · exact q
        · have := b_full0 n hn t ht
          have := this.2 (by omega)
          omega
      obtain ⟨r, hr⟩ : ∃ r, n - pop t = r + 1 := ⟨n - pop t - 1, by omega⟩
      refine hX _ _ (bF (by omega) ?_)
      intro Y hY
      have inner : ∀ (k j : Nat), k + j = n → Y (mnf (fun j => t.testBit j) (vN w n r t) 1000000 j) j J := by
        intro k
        induction k with
        | zero =>
          intro j hj
          obtain rfl : j = n := by omega
          refine hY _ _ _ (bT (by omega) (s_Row_put (by rw [show (40 : Int) + 1 = 41 from rfl, lnn_41]; omega) ⟨by omega, nm ?_⟩))
          rw [show (t : Int) + -1 = (t : Int) - 1 by omega]
          refine ih _ (by omega) (fun a k q => by rw [up_o (by omega)]; exact h2 a k q) (fun s q1 q2 => ?_)
          rw [show (40 : Int) + 1 = 41 from rfl]
          by_cases c : s = t
          · subst c
            rw [up_h, hr, needf_succ]
          · rw [up_o (by omega)]
            exact h3 s (by omega) q2
        | succ k ih2 =>
          intro j hj
          have g := ih2 (j + 1) (by omega)
          rw [mnf_succ] at g
          refine hY _ _ _ (bF (by omega) ?_)
          have eb := b_bit0 t h1024 j (by omega)
          rw [eb]
          cases hb : t.testBit j
          · rw [hb] at g
            refine nF (by simp) (s_needWith (w := w) hn ht hpn (by omega) hb (fun a b c d => by rw [h2 _ _ (by decide)]; exact hW a b c d) (fun s q1 q2 => h3 s (by omega) q2) (nm ⟨by omega, nm ?_⟩))
            rw [if_neg (by decide)] at g
            have ev : vN w n r t j = imax (w (pop t) j) (needf w n (n - (pop t + 1)) (t ||| 2 ^ j)) := by
              unfold vN
              rw [show n - (r + 1) = pop t by omega, show n - (pop t + 1) = r by omega]
            rw [ev] at g
            exact g
          · rw [hb, if_pos rfl] at g
            exact nT (by simp) ⟨by omega, nm g⟩
      exact inner n 0 rfl
  have := key (2 ^ n - 1) (up I (40 + 1) ((2 ^ n - 1 : Nat) : Int) 0) (Nat.le_refl _) (fun a k q => up_o (by omega)) (fun s q1 q2 => by
    obtain rfl : s = 2 ^ n - 1 := by omega
    rw [show (40 : Int) + 1 = 41 from rfl, up_h, b_full1 n hn, Nat.sub_self]
    rfl)
  exact this
theorem s_choose {w : Nat → Nat → Int} {n : Nat} {Q : sk_S → Prop} {I : sk_S} (hn : n < 11) (hw : Wb w n) (hW : ∀ a b : Nat, a < n → b < n → I 39 ((a : Int) * 10 + b) = w a b) (hT : ∀ t : Nat, t < 2 ^ n → I 41 t = needf w n (n - pop t) t)
    (h : ∀ J : sk_S, (∀ a k, a ≠ 43 → J a k = I a k) → (∀ i : Nat, i < n → J 43 i = (goalf w n i : Nat)) → Q J) : M_Planner_choose n Q I := by
  have hpow : 0 < 2 ^ n := Nat.two_pow_pos n
  have p0 : pop 0 = 0 := by decide
  intro X hX
  have key : ∀ (k i : Nat) (J : sk_S), k + i = n → (∀ a k, a ≠ 43 → J a k = I a k) → (∀ i' : Nat, i' < i → J 43 i' = (goalf w n i' : Nat)) → X (gset w n i : Nat) i J := by
    intro k
    induction k with
    | zero =>
      intro i J h1 h2 h3
      obtain rfl : i = n := by omega
      exact hX _ _ _ (bT (by omega) (h J h2 h3))
    | succ k ih =>
      intro i J h1 h2 h3
      have hG := gset_gG hn hw i (by omega)
      obtain ⟨s1, s2, s3⟩ := gstep_spec hn hw (by omega) hG
      have hs := hG.1
      have hp : pop (gset w n i) = i := hG.2.1
      have h1024 := lt_1024 hn hs
      refine hX _ _ _ (bF (by omega) ?_)
      intro Y hY
      have inner : ∀ (m j : Nat), m + j = gstep w n i (gset w n i) → Y j J := by
        intro m
        induction m with
        | zero =>
          intro j hj
          obtain rfl : j = gstep w n i (gset w n i) := by omega
          have hb := s2.1
          refine hY _ _ (bF (by omega) ?_)
          rw [b_bit0 _ h1024 _ (by omega), hb]
          refine nF (by simp) (s_needWith (w := w) hn hs (by omega) s1 hb (fun a b c d => by rw [h2 _ _ (by decide)]; exact hW a b c d) (fun t q1 q2 => by rw [h2 _ _ (by decide)]; exact hT t q2) (s_Row_at (by rw [show (40 : Int) + 1 = 41 from rfl, lnn_41]; omega) ?_))
          have e0 : J (40 + 1) 0 = needf w n n 0 := by
            rw [show (40 : Int) + 1 = 41 from rfl, h2 _ _ (by decide)]
            have := hT 0 hpow
            rwa [p0] at this
          rw [e0, hp]
          have h5 := s2.2
          refine bF (by omega) (s_Row_put (by rw [show (42 : Int) + 1 = 43 from rfl, lnn_43]; omega) ?_)
          rw [b_or0 _ h1024 _ (by omega)]
          refine nm ⟨by omega, nm ?_⟩
          have := ih (i + 1) (up J (42 + 1) i (gstep w n i (gset w n i) : Nat)) (by omega) (fun a k q => by rw [up_o (by omega)]; exact h2 a k q) (fun i' hi' => by
            rw [show (42 : Int) + 1 = 43 from rfl]
            by_cases c : i' = i
            · subst c; rw [up_h]; rfl
            · rw [up_o (by omega)]; exact h3 i' (by omega))
          exact this
        | succ m ih2 =>
          intro j hj
          have hlt : j < gstep w n i (gset w n i) := by omega
          have hno := s3 j hlt
          have g := ih2 (j + 1) (by omega)
          refine hY _ _ (bF (by omega) ?_)
          rw [b_bit0 _ h1024 _ (by omega)]
          cases hb : (gset w n i).testBit j
          · refine nF (by simp) (s_needWith (w := w) hn hs (by omega) (by omega) hb (fun a b c d => by rw [h2 _ _ (by decide)]; exact hW a b c d) (fun t q1 q2 => by rw [h2 _ _ (by decide)]; exact hT t q2) (s_Row_at (by rw [show (40 : Int) + 1 = 41 from rfl, lnn_41]; omega) ?_))
            have e0 : J (40 + 1) 0 = needf w n n 0 := by
              rw [show (40 : Int) + 1 = 41 from rfl, h2 _ _ (by decide)]
              have := hT 0 hpow
              rwa [p0] at this
            rw [e0, hp]
            have h5 : ¬ imax (w i j) (needf w n (n - (i + 1)) (gset w n i ||| 2 ^ j)) ≤ needf w n n 0 := fun q => hno ⟨hb, q⟩
            exact bT (by omega) ⟨by omega, nm g⟩
          · exact nT (by simp) ⟨by omega, nm g⟩
      exact inner (gstep w n i (gset w n i)) 0 rfl
  exact key n 0 I rfl (fun _ _ _ => rfl) (fun i hi => absurd hi (Nat.not_lt_zero i))
theorem s_plan {p q : Int} {n : Nat} {Q : Int → sk_S → Prop} {I : sk_S} (hp : kd p = 5) (hq : kd q = 5) (lp : p < 37) (lq : q < 37) (hn : n < 11) (e1 : I p 1 = n) (e2 : I q 1 = n) (hr : ∀ i j : Nat, i < n → j < n → near400 I p q i j)
    (h : ∀ J : sk_S, (∀ a k, a ≠ 39 → a ≠ 41 → a ≠ 43 → J a k = I a k) → (∀ i : Nat, i < n → J 43 i = (goalf (fun i j => wv I p q i j) n i : Nat)) → Q (needf (fun i j => wv I p q i j) n n 0) J) : M_Planner_plan p q Q I := by
  have hw : Wb (fun i j => wv I p q i j) n := fun i j a b => wv_rg (hr i j a b)
  have hpow : 0 < 2 ^ n := Nat.two_pow_pos n
  show ∀ v3_11, v3_11 = imin (I p 1) (I q 1) → L_Planner_plan_15 p q v3_11 Q 0 I
  rw [e1, e2, show imin (n : Int) n = n by unfold imin; split <;> rfl]
  refine nm ?_
  intro X hX
  have key : ∀ (k i : Nat) (J : sk_S), k + i = n → (∀ a k, a ≠ 39 → J a k = I a k) → (∀ a b : Nat, a < i → b < n → J 39 ((a : Int) * 10 + b) = wv I p q a b) → X i J := by
    intro k
    induction k with
    | zero =>
      intro i J h1 h2 h3
      obtain rfl : i = n := by omega
      refine hX _ _ (bT (by omega) (s_weigh (w := fun i j => wv I p q i j) hn h3 (fun K k1 k2 => ?_)))
      refine s_choose (w := fun i j => wv I p q i j) hn hw (fun a b c d => by rw [k1 _ _ (by decide)]; exact h3 a b c d) k2 (fun L l1 l2 => ?_)
      refine s_Row_at (by rw [show (40 : Int) + 1 = 41 from rfl, lnn_41]; omega) ?_
      have e0 : L (40 + 1) 0 = needf (fun i j => wv I p q i j) i i 0 := by
        rw [show (40 : Int) + 1 = 41 from rfl, l1 _ _ (by decide)]
        have := k2 0 hpow
        rwa [show pop 0 = 0 by decide] at this
      rw [e0]
      exact h L (fun a k q1 q2 q3 => by rw [l1 a k q3, k1 a k q2, h2 a k q1]) l2
    | succ k ih =>
      intro i J h1 h2 h3
      refine hX _ _ (bF (by omega) ?_)
      intro Y hY
      have inner : ∀ (m j : Nat) (J : sk_S), m + j = n → (∀ a k, a ≠ 39 → J a k = I a k) → (∀ a b : Nat, (a < i ∨ (a = i ∧ b < j)) → b < n → J 39 ((a : Int) * 10 + b) = wv I p q a b) → Y j J := by
        intro m
        induction m with
        | zero =>
          intro j J h1' h2 h3
          exact hY _ _ (bT (by omega) ⟨by omega, nm (ih (i + 1) J (by omega) h2 (fun a b c d => h3 a b (by omega) d))⟩)
        | succ m ih2 =>
          intro j J h1' h2 h3
          have ewv : wv J p q i j = wv I p q i j := by
            unfold wv
            simp only [h2 (p + 2) _ (by omega), h2 (q + 2) _ (by omega)]
          have hr' : near400 J p q i j := fun c c1 c2 => by
            rw [h2 (p + 2) _ (by omega), h2 (q + 2) _ (by omega)]
            exact hr i j (by omega) (by omega) c c1 c2
          refine hY _ _ (bF (by omega) (s_way hp hq (by omega) (by omega) hr' ⟨by omega, s_Row_put (by rw [show (38 : Int) + 1 = 39 from rfl, lnn_39]; omega) ⟨by omega, nm ?_⟩⟩))
          rw [show (38 : Int) + 1 = 39 from rfl, ewv]
          refine ih2 (j + 1) _ (by omega) (fun a k q => by rw [up_o (by omega)]; exact h2 a k q) (fun a b c d => ?_)
          by_cases e : a = i ∧ b = j
          · rw [e.1, e.2, up_h]
          · rw [up_o (by omega)]
            exact h3 a b (by omega) d
      exact inner n 0 J rfl h2 (fun a b c d => h3 a b (by omega) d)
  exact key n 0 I rfl (fun _ _ _ => rfl) (fun a b c => absurd c (Nat.not_lt_zero a))
