/-! ===== mark ===== -/
def bh (I : sk_S) (f t : Int) : Prop := ∀ j : Int, 0 ≤ j → j < I 149 4 → I 191 j = f → I 192 j < t
theorem mark_top {I : sk_S} (h : iMark I) : 0 ≤ I 149 4 ∧ I 149 4 ≤ 200 := h.1.2
theorem ls_le {I : sk_S} (h : iMark I) {n f r j : Int} (hn : n = I 149 4) (hl : isLs I n f r) (hr : r ≠ -1) (h0 : 0 ≤ j) (hj : j < n) (hf : I 191 j = f) : j ≤ r ∧ I 192 j ≤ I 192 r := by
  rcases hl with hl | hl
  · exact absurd hl.1 hr
  · have a : j ≤ r := by
      rcases Int.lt_or_le r j with q | q
      · exact absurd hf (hl.2.2.2 j q hj)
      · exact q
    refine ⟨a, ?_⟩
    by_cases e : j = r
    · rw [e]; exact Int.le_refl _
    · have := h.2.2.2.1 j r h0 (by omega) (by omega) (by rw [hf, hl.2.2.1])
      omega
theorem s_told151 {m c : Int} {Q : Int → sk_S → Prop} {I : sk_S} (hm : 0 ≤ m ∧ m < 200) (hc : 0 ≤ c ∧ c < 5) (h : Q (I 151 (m * 5 + c)) I) : M_Foreign_told m c Q I :=
  ⟨by omega, s_Row_at (by rw [show (150 : Int) + 1 = 151 from rfl, lnn_151]; omega) h⟩
theorem s_isBehind {f t : Int} {Q : Int → sk_S → Prop} {I : sk_S} (h : iMark I) (hf : 0 ≤ f ∧ f ≤ 9) (h1 : bh I f t → Q 1 I) (h0 : ¬ bh I f t → Q 0 I) : M_Foreign_isBehind f t Q I := by
  have hn := mark_top h
  have hl := (h.2.2.2.2.1 f hf.1 (by omega)).2
  refine s_Row_at (by rw [show (154 : Int) + 1 = 155 from rfl, lnn_155]; omega) ?_
  rw [show (154 : Int) + 1 = 155 from rfl]
  by_cases q : I 155 f = -1
  · refine bT q (h1 (fun j j1 j2 j3 => ?_))
    rcases hl with hl | hl
    · exact absurd j3 (hl.2 j j1 j2)
    · omega
  · have hr : 0 ≤ I 155 f ∧ I 155 f < I 149 4 ∧ I 191 (I 155 f) = f := by
      rcases hl with hl | hl
      · exact absurd hl.1 q
      · exact ⟨hl.1, hl.2.1, hl.2.2.1⟩
    refine bF q (s_told151 (by omega) (by decide) ?_)
    have ec := (h.2.2.1 (I 155 f) hr.1 hr.2.1).1.2.2.2
    rw [ec]
    refine ⟨fun c => h0 (fun b => ?_), fun c => h1 (fun j j1 j2 j3 => ?_)⟩
    · have := b (I 155 f) hr.1 hr.2.1 hr.2.2
      omega
    · have := (ls_le h rfl hl q j1 j2 j3).2
      omega
theorem s_marks {f t x y z : Int} {Q : Int → sk_S → Prop} {I : sk_S} (h : iMark I) (h1 : bh I f t → J_Mo_mark_114 f t x y z Q I) (h0 : ¬ bh I f t → Q (-2) I) : L_Mo_mark_74 f t x y z Q 0 I := by
  have hn := mark_top h
  have e := h.1.1
  intro X hX
  have key : ∀ (m : Nat) (k : Int), k + m = I 149 4 → 0 ≤ k → (∀ j : Int, 0 ≤ j → j < k → I 191 j = f → I 192 j < t) → X k I := by
    intro m
    induction m with
    | zero =>
      intro k k1 k2 k3
      obtain rfl : k = I 149 4 := by omega
      exact hX _ _ (bT (by omega) (h1 k3))
    | succ m ih =>
      intro k k1 k2 k3
      have nx : (I 191 k = f → I 192 k < t) → J_Mo_mark_108 f t x y z k Q X I := fun q => ⟨by omega, nm (ih (k + 1) (by omega) (by omega) (fun j j1 j2 j3 => by
        by_cases e' : j = k
        · rw [e'] at j3 ⊢; exact q j3
        · exact k3 j j1 (by omega) j3))⟩
      refine hX _ _ (bF (by omega) ⟨by omega, fun q => nx (fun r => absurd r q), fun q => ⟨by omega, fun c => nx (fun _ => c), fun c => h0 (fun b => c (b k k2 (by omega) q))⟩⟩)
  exact key (I 149 4).toNat 0 (by omega) (by omega) (fun j j1 j2 => by omega)
theorem s_Foreign_add {f t x y z : Int} {Q : sk_S → Prop} {I : sk_S} (h : iMark I) (hf : 0 ≤ f ∧ f ≤ 9) (hn : I 149 4 < 200)
    (hQ : ∀ J : sk_S, (∀ a k, J a k = if a = 149 ∧ k = 4 then I 149 4 + 1 else if a = 155 ∧ k = f then I 149 4 else if a = 153 ∧ k = f ∧ I 155 f = -1 then I 149 4 else if a = 151 ∧ k = I 155 f * 5 + 4 ∧ I 155 f ≠ -1 then I 149 4 else if a = 151 ∧ k = I 149 4 * 5 + 4 then -1 else if a = 151 ∧ k = I 149 4 * 5 + 3 then t else if a = 151 ∧ k = I 149 4 * 5 + 2 then z else if a = 151 ∧ k = I 149 4 * 5 + 1 then y else if a = 151 ∧ k = I 149 4 * 5 + 0 then x else I a k) → Q J) : M_Foreign_add f t x y z Q I := by
  have hp := mark_top h
  have hl := (h.2.2.2.2.1 f hf.1 (by omega)).2
  have l151 : ln (150 + 1) = 1000 := lnn_151
  have l153 : ln (152 + 1) = 10 := lnn_153
  have l155 : ln (154 + 1) = 10 := lnn_155
  have o : ∀ (J : sk_S) (a k w : Int), a ≠ 149 → up J a k w 149 4 = J 149 4 := fun J a k w q => up_o (by omega)
  have o5 : ∀ (J : sk_S) (a k w : Int), a ≠ 155 → up J a k w 155 f = J 155 f := fun J a k w q => up_o (by omega)
  refine ⟨by omega, s_Row_put (by rw [l151]; omega) ?_⟩
  rw [o _ _ _ _ (by decide)]
  refine ⟨by omega, s_Row_put (by rw [l151]; omega) ?_⟩
  rw [o _ _ _ _ (by decide), o _ _ _ _ (by decide)]
  refine ⟨by omega, s_Row_put (by rw [l151]; omega) ?_⟩
  rw [o _ _ _ _ (by decide), o _ _ _ _ (by decide), o _ _ _ _ (by decide)]
  refine ⟨by omega, s_Row_put (by rw [l151]; omega) ?_⟩
  rw [o _ _ _ _ (by decide), o _ _ _ _ (by decide), o _ _ _ _ (by decide), o _ _ _ _ (by decide)]
  refine ⟨by omega, s_Row_put (by rw [l151]; omega) (s_Row_at (by rw [l155]; omega) ?_)⟩
  rw [show (154 : Int) + 1 = 155 from rfl, show (150 : Int) + 1 = 151 from rfl, o5 _ _ _ _ (by decide), o5 _ _ _ _ (by decide), o5 _ _ _ _ (by decide), o5 _ _ _ _ (by decide), o5 _ _ _ _ (by decide)]
  generalize hK : up (up (up (up (up I 151 (I 149 4 * 5 + 0) x) 151 (I 149 4 * 5 + 1) y) 151 (I 149 4 * 5 + 2) z) 151 (I 149 4 * 5 + 3) t) 151 (I 149 4 * 5 + 4) (-1) = K
  have k0 : ∀ a k, K a k = if a = 151 ∧ k = I 149 4 * 5 + 4 then -1 else if a = 151 ∧ k = I 149 4 * 5 + 3 then t else if a = 151 ∧ k = I 149 4 * 5 + 2 then z else if a = 151 ∧ k = I 149 4 * 5 + 1 then y else if a = 151 ∧ k = I 149 4 * 5 + 0 then x else I a k := fun a k => by
    rw [← hK]
    unfold up
    rfl
  have k149 : K 149 4 = I 149 4 := by rw [k0, if_neg (by omega), if_neg (by omega), if_neg (by omega), if_neg (by omega), if_neg (by omega)]
  have k155 : K 155 f = I 155 f := by rw [k0, if_neg (by omega), if_neg (by omega), if_neg (by omega), if_neg (by omega), if_neg (by omega)]
  refine ⟨fun q => s_Row_at (by rw [l155]; omega) ?_, fun q => s_Row_put (by rw [l153]; omega) ?_⟩
  · rw [show (154 : Int) + 1 = 155 from rfl, k155, k149]
    have hr : 0 ≤ I 155 f ∧ I 155 f < I 149 4 := by
      rcases hl with hl | hl
      · exact absurd hl.1 q
      · exact ⟨hl.1, hl.2.1⟩
    refine ⟨by omega, s_Row_put (by rw [l151]; omega) (s_Row_put (by rw [l155]; omega) ?_)⟩
    rw [o _ _ _ _ (by decide), o _ _ _ _ (by decide), k149]
    refine ⟨by omega, hQ _ (fun a k => ?_)⟩
    rw [show (154 : Int) + 1 = 155 from rfl, show (150 : Int) + 1 = 151 from rfl]
    by_cases c1 : a = 149 ∧ k = 4
    · rw [if_pos c1, c1.1, c1.2, up_h]
    · rw [if_neg c1, up_o c1]
      by_cases c2 : a = 155 ∧ k = f
      · rw [if_pos c2, c2.1, c2.2, up_h]
      · rw [if_neg c2, up_o c2, if_neg (fun r => q r.2.2)]
        by_cases c3 : a = 151 ∧ k = I 155 f * 5 + 4
        · rw [if_pos ⟨c3.1, c3.2, q⟩, c3.1, c3.2, up_h]
        · rw [if_neg (fun r => c3 ⟨r.1, r.2.1⟩), up_o c3, k0]
  · rw [k149]
    refine s_Row_put (by rw [l155]; omega) ?_
    rw [o _ _ _ _ (by decide), o _ _ _ _ (by decide), k149]
    refine ⟨by omega, hQ _ (fun a k => ?_)⟩
    rw [show (154 : Int) + 1 = 155 from rfl, show (152 : Int) + 1 = 153 from rfl]
    by_cases c1 : a = 149 ∧ k = 4
    · rw [if_pos c1, c1.1, c1.2, up_h]
    · rw [if_neg c1, up_o c1]
      by_cases c2 : a = 155 ∧ k = f
      · rw [if_pos c2, c2.1, c2.2, up_h]
      · rw [if_neg c2, up_o c2]
        by_cases c3 : a = 153 ∧ k = f
        · rw [if_pos ⟨c3.1, c3.2, q⟩, c3.1, c3.2, up_h]
        · rw [if_neg (fun r => c3 ⟨r.1, r.2.1⟩), up_o c3, if_neg (fun r => r.2.2 q), k0]
