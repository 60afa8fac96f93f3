/-! ===== first: the reference ===== -/
def RefSt (I L : sk_S) : Prop := ∀ a k : Int, 158 ≤ a → a ≠ 196 → a ≠ 197 → ¬ (a = 158 ∧ (k = 49 ∨ k = 50)) → L a k = I a k
theorem s_first8 {I L : sk_S} (h : iMark I) (hL : RefSt I L) {last t : Int} {Q : Int → sk_S → Prop} {X2 : Int → sk_S → Prop} (ht : lt' I (I 149 4) last t) (hJ : J_Mo_first_53 t Q X2 L) : L_Mo_first_8 last Q X2 1000 0 L := by
  have hn := mark_top h
  have en : L 158 48 = I 149 4 := by rw [hL _ _ (by decide) (by decide) (by decide) (by omega)]; exact h.1.1.symm
  have e192 : ∀ k, L 192 k = I 192 k := fun k => hL _ _ (by decide) (by decide) (by decide) (by omega)
  intro X hX
  have key : ∀ (m : Nat) (k v : Int), k + m = I 149 4 → 0 ≤ k → ((v = 1000 ∧ ∀ j : Int, 0 ≤ j → j < k → I 192 j ≤ last) ∨ (v < 1000 ∧ last < v ∧ (∃ j : Int, 0 ≤ j ∧ j < k ∧ I 192 j = v) ∧ ∀ j : Int, 0 ≤ j → j < k → last < I 192 j → v ≤ I 192 j)) → X v k L := by
    intro m
    induction m with
    | zero =>
      intro k v q1 q2 q3
      obtain rfl : k = I 149 4 := by omega
      have := lt_one ht q3
      subst this
      exact hX _ _ _ (bT (by omega) hJ)
    | succ m ih =>
      intro k v q1 q2 q3
      have tr := (tick_rg h (m := k) ⟨q2, by omega⟩).1
      refine hX _ _ _ (bF (by omega) ⟨by omega, ?_⟩)
      rw [e192]
      refine ⟨fun w => ⟨by omega, nm (ih (k + 1) v (by omega) (by omega) ?_)⟩, fun w => ⟨by omega, fun w2 => ⟨by omega, nm (ih (k + 1) v (by omega) (by omega) ?_)⟩, fun w2 => ⟨by omega, by omega, nm (ih (k + 1) _ (by omega) (by omega) ?_)⟩⟩⟩
      · rcases q3 with ⟨w1, w2⟩ | ⟨w1, w2, ⟨g, g1, g2, g3⟩, w3⟩
        · refine Or.inl ⟨w1, fun j j1 j2 => ?_⟩
          by_cases c : j = k
          · subst c; exact w
          · exact w2 j j1 (by omega)
        · refine Or.inr ⟨w1, w2, ⟨g, g1, by omega, g3⟩, fun j j1 j2 j3 => ?_⟩
          by_cases c : j = k
          · subst c; omega
          · exact w3 j j1 (by omega) j3
      · rcases q3 with ⟨w3, w4⟩ | ⟨w3, w4, ⟨g, g1, g2, g3⟩, w5⟩
        · omega
        · refine Or.inr ⟨w3, w4, ⟨g, g1, by omega, g3⟩, fun j j1 j2 j3 => ?_⟩
          by_cases c : j = k
          · subst c; exact w2
          · exact w5 j j1 (by omega) j3
      · refine Or.inr ⟨by omega, by omega, ⟨k, q2, by omega, rfl⟩, fun j j1 j2 j3 => ?_⟩
        by_cases c : j = k
        · subst c; exact Int.le_refl _
        · rcases q3 with ⟨w3, w4⟩ | ⟨w3, w4, _, w5⟩
          · have := w4 j j1 (by omega)
            omega
          · have := w5 j j1 (by omega) j3
            omega
  exact key (I 149 4).toNat 0 1000 (by omega) (by omega) (Or.inl ⟨rfl, fun j j1 j2 => by omega⟩)
theorem s_markOf {I L : sk_S} (h : iMark I) (hL : RefSt I L) {f t r : Int} {Q : Int → sk_S → Prop} (hm : mk I (I 149 4) f t r) (hQ : Q r L) : M_Mo_markOf f t Q L := by
  have hn := mark_top h
  have hi : incr I (I 149 4) := h.2.2.2.1
  have en : L 158 48 = I 149 4 := by rw [hL _ _ (by decide) (by decide) (by decide) (by omega)]; exact h.1.1.symm
  have e192 : ∀ k, L 192 k = I 192 k := fun k => hL _ _ (by decide) (by decide) (by decide) (by omega)
  have e191 : ∀ k, L 191 k = I 191 k := fun k => hL _ _ (by decide) (by decide) (by decide) (by omega)
  intro X hX
  have key : ∀ (m : Nat) (k : Int), k + m = I 149 4 → 0 ≤ k → (∀ j : Int, 0 ≤ j → j < k → I 191 j = f → I 192 j ≠ t) → X k L := by
    intro m
    induction m with
    | zero =>
      intro k q1 q2 q3
      obtain rfl : k = I 149 4 := by omega
      have := mk_one hi hm (Or.inl ⟨rfl, q3⟩)
      subst this
      exact hX _ _ (bT (by omega) hQ)
    | succ m ih =>
      intro k q1 q2 q3
      have nxt : (I 191 k = f → I 192 k ≠ t) → J_Mo_markOf_32 f t k Q X L := fun w => ⟨by omega, nm (ih (k + 1) (by omega) (by omega) fun j j1 j2 j3 => by
        by_cases c : j = k
        · subst c; exact w j3
        · exact q3 j j1 (by omega) j3)⟩
      refine hX _ _ (bF (by omega) ⟨by omega, ?_⟩)
      rw [e191, e192]
      refine ⟨fun w => nxt (fun v => absurd v w), fun w => ⟨by omega, fun v => nxt (fun _ => v), fun v => ?_⟩⟩
      have := mk_one hi hm (Or.inr ⟨q2, by omega, w, v⟩)
      subst this
      exact hQ
  exact key (I 149 4).toNat 0 (by omega) (by omega) (fun j j1 j2 => by omega)
/-- the reference stands at a tick -/
def atM (I M : sk_S) (t : Int) (nw th : Int → Int) : Prop := RefSt I M ∧ ∀ f : Int, 0 ≤ f → f < 10 → (M 196 f = nw f ∧ M 197 f = th f) ∧ mk I (I 149 4) f t (nw f) ∧ mk I (I 149 4) f (t + 1) (th f)
theorem s_M_zone {I M : sk_S} (h : iMark I) (hI : iAir I) {a t : Int} {nw th : Int → Int} {Q : Int → sk_S → Prop} (ha : 0 ≤ a ∧ a < 10) (hM : atM I M t nw th) (h1 : zP I nw th a → Q 1 M) (h0 : ¬ zP I nw th a → Q 0 M) : M_Mo_isInZone a Q M := by
  have hn := mark_top h
  obtain ⟨⟨e1, e2⟩, m1, m2⟩ := hM.2 a ha.1 ha.2
  have r1 := mk_at m1
  have r2 := mk_at m2
  obtain ⟨_, a2, a3, a4, _⟩ := hI
  have b2 := a2.2
  have b3 := a3.2
  have b4 := a4.2
  unfold rg at b2 b3 b4
  have f193 : ∀ k, M 193 k = I 193 k := fun k => hM.1 _ _ (by decide) (by decide) (by decide) (by omega)
  have f194 : ∀ k, M 194 k = I 194 k := fun k => hM.1 _ _ (by decide) (by decide) (by decide) (by omega)
  have c1 : M 158 11 = I 36 1 := by rw [hM.1 _ _ (by decide) (by decide) (by decide) (by omega)]; exact a2.1.symm
  have c2 : M 158 12 = I 36 2 := by rw [hM.1 _ _ (by decide) (by decide) (by decide) (by omega)]; exact a3.1.symm
  have c3 : M 158 13 = I 36 3 := by rw [hM.1 _ _ (by decide) (by decide) (by decide) (by omega)]; exact a4.1.symm
  unfold M_Mo_isInZone
  rw [e1, e2, c1, c2, c3, f193, f194]
  refine ⟨ha, fun q => h0 fun w => by have := w.1; omega, fun q => ⟨fun qR => ?_, fun qR => h0 fun w => nv_none (by rw [qR]; decide) w.2⟩⟩
  have hm : 0 ≤ nw a ∧ nw a < I 149 4 := by omega
  have t1 := tick_rg h hm
  refine ⟨ha, by omega, by omega, nm ⟨ha, by omega, by omega, nm ⟨ha, fun qt => ?_, fun qt => ?_⟩⟩⟩
  · have ee : (if 0 ≤ th a then th a else nw a) = nw a := if_neg (by omega)
    unfold zP at h1 h0
    rw [ee] at h1 h0
    refine z0 (z0 ?_)
    show M_Mo_isNear (I 193 (nw a) - I 36 1) (I 194 (nw a) - I 36 2) 0 0 0 0 1 (M 158 13) _ M
    rw [c3]
    refine s_isNear (by omega) (by omega) (by decide) (by omega) (by omega) (by decide) (by omega) (fun w => h1 ⟨hm.1, ?_⟩) (fun w => h0 fun v => w ?_)
    · rw [Int.add_zero, Int.add_zero] at w
      exact w
    · rw [Int.add_zero, Int.add_zero]
      exact v.2
  · have ht : 0 ≤ th a ∧ th a < I 149 4 := by omega
    have t2 := tick_rg h ht
    have ee : (if 0 ≤ th a then th a else nw a) = th a := if_pos ht.1
    unfold zP at h1 h0
    rw [ee] at h1 h0
    unfold J_Mo_isInZone_66
    rw [e1, e2, f193, f193]
    refine z1 ⟨ha, by omega, ha, by omega, by omega, ?_⟩
    unfold J_Mo_isInZone_100
    rw [e1, e2, f194, f194]
    refine z1 ⟨ha, by omega, ha, by omega, by omega, ?_⟩
    unfold J_Mo_isInZone_134
    rw [c3]
    refine s_isNear (by omega) (by omega) (by decide) (by omega) (by omega) (by decide) (by omega) (fun w => h1 ⟨hm.1, ?_⟩) (fun w => h0 fun v => w ?_)
    · rw [show I 193 (nw a) - I 36 1 + (I 193 (th a) - I 193 (nw a)) = I 193 (th a) - I 36 1 by omega, show I 194 (nw a) - I 36 2 + (I 194 (th a) - I 194 (nw a)) = I 194 (th a) - I 36 2 by omega] at w
      exact w
    · rw [show I 193 (nw a) - I 36 1 + (I 193 (th a) - I 193 (nw a)) = I 193 (th a) - I 36 1 by omega, show I 194 (nw a) - I 36 2 + (I 194 (th a) - I 194 (nw a)) = I 194 (th a) - I 36 2 by omega]
      exact v.2
theorem s_M_near {I M : sk_S} (h : iMark I) (hI : iAir I) {a b t : Int} {nw th : Int → Int} {Q : Int → sk_S → Prop} (ha : 0 ≤ a ∧ a < 10) (hb : 0 ≤ b ∧ b < 10) (hM : atM I M t nw th) (h1 : nP I nw th a b → Q 1 M) (h0 : ¬ nP I nw th a b → Q 0 M) : M_Mo_areNear a b Q M := by
  have hn := mark_top h
  obtain ⟨⟨e1, e2⟩, m1, m2⟩ := hM.2 a ha.1 ha.2
  obtain ⟨⟨e3, e4⟩, m3, m4⟩ := hM.2 b hb.1 hb.2
  have r1 := mk_at m1
  have r2 := mk_at m2
  have r3 := mk_at m3
  have r4 := mk_at m4
  have g := hI.1.2
  unfold rg at g
  have f193 : ∀ k, M 193 k = I 193 k := fun k => hM.1 _ _ (by decide) (by decide) (by decide) (by omega)
  have f194 : ∀ k, M 194 k = I 194 k := fun k => hM.1 _ _ (by decide) (by decide) (by decide) (by omega)
  have f195 : ∀ k, M 195 k = I 195 k := fun k => hM.1 _ _ (by decide) (by decide) (by decide) (by omega)
  have c3 : M 158 10 = I 36 0 := by rw [hM.1 _ _ (by decide) (by decide) (by decide) (by omega)]; exact hI.1.1.symm
  unfold M_Mo_areNear
  rw [e1, e2, e3, e4, c3]
  simp only [f193, f194, f195]
  refine ⟨ha, fun q => h0 fun w => by have := w.1; omega, fun q => ⟨hb, fun q2 => ?_, fun q2 => h0 fun w => q2 w.2.1⟩⟩
  have hma : 0 ≤ nw a ∧ nw a < I 149 4 := by omega
  have hmb : 0 ≤ nw b ∧ nw b < I 149 4 := by omega
  have t1 := tick_rg h hma
  have t2 := tick_rg h hmb
  have j112 : ¬ (0 ≤ th a ∧ 0 ≤ th b) → J_Mo_areNear_112 (I 193 (nw a) - I 193 (nw b)) (I 194 (nw a) - I 194 (nw b)) (I 195 (nw a) - I 195 (nw b)) Q M := fun w => by
    unfold nP at h1 h0
    rw [if_neg w, if_neg w] at h1 h0
    unfold J_Mo_areNear_112
    rw [c3]
    refine s_isNear (by omega) (by omega) (by omega) (by omega) (by omega) (by omega) (by omega) (fun v => h1 ⟨hma.1, hmb.1, ?_⟩) (fun v => h0 fun u => v ?_)
    · rw [Int.add_zero, Int.add_zero, Int.add_zero] at v
      exact v
    · rw [Int.add_zero, Int.add_zero, Int.add_zero]
      exact u.2.2
  refine ⟨ha, by omega, hb, by omega, by omega, nm ⟨ha, by omega, hb, by omega, by omega, nm ⟨ha, by omega, hb, by omega, by omega, nm ⟨ha, fun q3 => j112 (by omega), fun q3 => ⟨hb, fun q4 => ?_, fun q4 => j112 (by omega)⟩⟩⟩⟩⟩
  have hta : 0 ≤ th a ∧ th a < I 149 4 := by omega
  have htb : 0 ≤ th b ∧ th b < I 149 4 := by omega
  have t3 := tick_rg h hta
  have t4 := tick_rg h htb
  unfold nP at h1 h0
  rw [if_pos ⟨hta.1, htb.1⟩, if_pos ⟨hta.1, htb.1⟩] at h1 h0
  refine ⟨ha, by omega, hb, by omega, by omega, nm ⟨ha, by omega, hb, by omega, by omega, nm ⟨ha, by omega, hb, by omega, by omega, nm ?_⟩⟩⟩
  refine s_isNear (by omega) (by omega) (by omega) (by omega) (by omega) (by omega) (by omega) (fun v => h1 ⟨hma.1, hmb.1, ?_⟩) (fun v => h0 fun u => v ?_)
  · rw [as_c, as_c, as_c] at v
    exact v
  · rw [as_c, as_c, as_c]
    exact u.2.2
theorem s_findClash {I L : sk_S} (h : iMark I) (hI : iAir I) (hL : RefSt I L) {t : Int} {nw th : Int → Int} {Q : Int → sk_S → Prop} (ht : 0 ≤ t ∧ t ≤ 999) (hmk : ∀ f : Int, 0 ≤ f → f < 10 → mk I (I 149 4) f t (nw f) ∧ mk I (I 149 4) f (t + 1) (th f)) (h0 : rsN (zP I nw th) (nP I nw th) → ∀ M : sk_S, (∀ a k : Int, a ≠ 196 → a ≠ 197 → M a k = L a k) → Q 0 M) (h1 : ∀ x y : Int, rsF (zP I nw th) (nP I nw th) x y → ∀ M : sk_S, (∀ a k : Int, a ≠ 196 → a ≠ 197 → M a k = L a k) → Q 1 (up (up M 158 49 x) 158 50 y)) : M_Mo_findClash t Q L := by
  intro X hX
  have fill : ∀ (m : Nat) (f : Int) (M : sk_S), f + m = 10 → 0 ≤ f → (∀ a k : Int, a ≠ 196 → a ≠ 197 → M a k = L a k) → (∀ g : Int, 0 ≤ g → g < f → M 196 g = nw g ∧ M 197 g = th g) → X f M := by
    intro m
    induction m with
    | zero =>
      intro f M q1 q2 q3 q4
      obtain rfl : f = 10 := by omega
      have hMs : RefSt I M := fun a k w1 w2 w3 w4 => by rw [q3 a k w2 w3]; exact hL a k w1 w2 w3 w4
      have hM : atM I M t nw th := ⟨hMs, fun g g1 g2 => ⟨q4 g g1 g2, hmk g g1 g2⟩⟩
      refine hX _ _ (bT (by decide) ?_)
      intro Y hY
      have key : ∀ (m : Nat) (a : Int), a + m = 10 → 0 ≤ a → (∀ a' : Int, 0 ≤ a' → a' < a → ¬ zP I nw th a' ∧ ∀ b : Int, a' < b → b < 10 → ¬ nP I nw th a' b) → Y a M := by
        intro m
        induction m with
        | zero =>
          intro a q1 q2 w3
          obtain rfl : a = 10 := by omega
          exact hY _ _ (bT (by decide) (h0 w3 M q3))
        | succ m ih =>
          intro a q1 q2 w3
          have ha : 0 ≤ a ∧ a < 10 := by omega
          refine hY _ _ (bF (by omega) (s_M_zone h hI ha hM (fun z => z1 (h1 a (-1) ⟨ha, w3, Or.inl ⟨z, rfl⟩⟩ M q3)) (fun z => z0 ⟨by omega, nm ?_⟩)))
          intro Z hZ
          have inner : ∀ (r : Nat) (b : Int), b + r = 10 → a < b → (∀ b' : Int, a < b' → b' < b → ¬ nP I nw th a b') → Z b M := by
            intro r
            induction r with
            | zero =>
              intro b p1 p2 p3
              refine hZ _ _ (bT (by omega) ⟨by omega, nm (ih (a + 1) (by omega) (by omega) fun a' v1 v2 => ?_)⟩)
              by_cases c : a' = a
              · subst c; exact ⟨z, fun b' u1 u2 => p3 b' u1 (by omega)⟩
              · exact w3 a' v1 (by omega)
            | succ r ih2 =>
              intro b p1 p2 p3
              refine hZ _ _ (bF (by omega) (s_M_near h hI ha (by omega) hM (fun w => n1 (h1 a b ⟨ha, w3, Or.inr ⟨z, p2, by omega, w, p3⟩⟩ M q3)) (fun w => n0 ⟨by omega, nm (ih2 (b + 1) (by omega) (by omega) fun b' v1 v2 => ?_)⟩)))
              by_cases c : b' = b
              · subst c; exact w
              · exact p3 b' v1 (by omega)
          exact inner (10 - (a + 1)).toNat (a + 1) (by omega) (by omega) (fun b' v1 v2 => by omega)
      exact key 10 0 (by omega) (by omega) (fun a' v1 v2 => by omega)
    | succ m ih =>
      intro f M q1 q2 q3 q4
      have hf : 0 ≤ f ∧ f < 10 := by omega
      have hMs : ∀ (M' : sk_S), (∀ a k : Int, a ≠ 196 → a ≠ 197 → M' a k = L a k) → RefSt I M' := fun M' hM' a k w1 w2 w3 w4 => by rw [hM' a k w2 w3]; exact hL a k w1 w2 w3 w4
      have q3' : ∀ v : Int, ∀ a k : Int, a ≠ 196 → a ≠ 197 → up M 196 f v a k = L a k := fun v a k w1 w2 => by rw [up_o (by omega)]; exact q3 a k w1 w2
      refine hX _ _ (bF (by omega) (s_markOf h (hMs M q3) (hmk f hf.1 hf.2).1 ⟨hf, by omega, s_markOf h (hMs _ (q3' _)) (hmk f hf.1 hf.2).2 ⟨hf, by omega, nm (ih (f + 1) _ (by omega) (by omega) (fun a k w1 w2 => by rw [up_o (by omega)]; exact q3' _ a k w1 w2) (fun g g1 g2 => ?_))⟩⟩))
      by_cases c : g = f
      · subst c
        rw [up_o (by omega), up_h, up_h]
        exact ⟨rfl, rfl⟩
      · rw [up_o (by omega), up_o (by omega), up_o (by omega), up_o (by omega)]
        exact q4 g g1 (by omega)
  exact fill 10 0 L (by omega) (by omega) (fun _ _ _ _ => rfl) (fun g g1 g2 => by omega)
def refF (I : sk_S) (last r x y : Int) : Prop := ∀ (K : Int → sk_S → Prop) (L : sk_S), RefSt I L → (∀ M : sk_S, (∀ a k : Int, a ≠ 196 → a ≠ 197 → ¬ (a = 158 ∧ (k = 49 ∨ k = 50)) → M a k = L a k) → M 158 49 = x → M 158 50 = y → K r M) → L_Mo_first_2 K last L
def refN (I : sk_S) (last : Int) : Prop := ∀ (K : Int → sk_S → Prop) (L : sk_S), RefSt I L → (∀ M : sk_S, (∀ a k : Int, a ≠ 196 → a ≠ 197 → M a k = L a k) → K (-1) M) → L_Mo_first_2 K last L
theorem ref_end {I : sk_S} (h : iMark I) {last : Int} (ht : lt' I (I 149 4) last 1000) : refN I last := fun K L hL hK X hX => hX _ _ (s_first8 h hL ht (nF rfl (hK L fun _ _ _ _ => rfl)))
theorem ref_found {I : sk_S} (h : iMark I) (hI : iAir I) {last t x y : Int} {nw th : Int → Int} (ht : lt' I (I 149 4) last t) (h9 : 0 ≤ t ∧ t ≤ 999) (hmk : ∀ f : Int, 0 ≤ f → f < 10 → mk I (I 149 4) f t (nw f) ∧ mk I (I 149 4) f (t + 1) (th f)) (hF : rsF (zP I nw th) (nP I nw th) x y) : refF I last t x y := fun K L hL hK X hX => by
  refine hX _ _ (s_first8 h hL ht (nT (by omega) (s_findClash h hI hL h9 hmk (fun g => absurd g fun g => rsF_N hF g) (fun x' y' g M hM => z1 ?_))))
  obtain ⟨rfl, rfl⟩ := rsF_one hF g
  refine hK _ (fun a k w1 w2 w3 => by rw [up_o (by omega), up_o (by omega)]; exact hM a k w1 w2) ?_ ?_
  · rw [up_o (by omega), up_h]
  · rw [up_h]
theorem ref_step {I : sk_S} (h : iMark I) (hI : iAir I) {last t : Int} {nw th : Int → Int} (ht : lt' I (I 149 4) last t) (h9 : 0 ≤ t ∧ t ≤ 999) (hmk : ∀ f : Int, 0 ≤ f → f < 10 → mk I (I 149 4) f t (nw f) ∧ mk I (I 149 4) f (t + 1) (th f)) (hN : rsN (zP I nw th) (nP I nw th)) : (∀ r x y : Int, refF I t r x y → refF I last r x y) ∧ (refN I t → refN I last) := by
  have mid : ∀ (L M : sk_S), RefSt I L → (∀ a k : Int, a ≠ 196 → a ≠ 197 → M a k = L a k) → RefSt I M := fun L M hL hM a k w1 w2 w3 w4 => by rw [hM a k w2 w3]; exact hL a k w1 w2 w3 w4
  refine ⟨fun r x y g K L hL hK X hX => ?_, fun g K L hL hK X hX => ?_⟩
  · refine hX _ _ (s_first8 h hL ht (nT (by omega) (s_findClash h hI hL h9 hmk (fun _ M hM => z0 ?_) (fun x' y' w => absurd hN fun hN => rsF_N w hN))))
    exact g K M (mid L M hL hM) (fun M' hM' m1 m2 => hK M' (fun a k w1 w2 w3 => by rw [hM' a k w1 w2 w3]; exact hM a k w1 w2) m1 m2) X hX
  · refine hX _ _ (s_first8 h hL ht (nT (by omega) (s_findClash h hI hL h9 hmk (fun _ M hM => z0 ?_) (fun x' y' w => absurd hN fun hN => rsF_N w hN))))
    exact g K M (mid L M hL hM) (fun M' hM' => hK M' (fun a k w1 w2 => by rw [hM' a k w1 w2]; exact hM a k w1 w2)) X hX
