/-! ===== clean: no two of a pass come too near, none comes into the zone ===== -/
def cleanP (T G : Int) (st sp : Int → Int → Int) (wt : Int → Int) (zx zy R n : Int) : Prop := (∀ a b : Int, 0 ≤ a → a < b → b < n → ¬ mtv T G st sp a b (wt b - wt a)) ∧ ∀ i : Int, 0 ≤ i → i < n → ¬ znv st sp zx zy R i
theorem cleanP_cong {T G : Int} {st sp st' sp' : Int → Int → Int} {wt wt' : Int → Int} {zx zy R n : Int} (h : ∀ i : Int, 0 ≤ i → i < n → (∀ c : Int, 0 ≤ c → c < 3 → st i c = st' i c ∧ sp i c = sp' i c) ∧ wt i = wt' i) : cleanP T G st sp wt zx zy R n ↔ cleanP T G st' sp' wt' zx zy R n := by
  unfold cleanP
  constructor
  · rintro ⟨a1, a2⟩
    refine ⟨fun a b q1 q2 q3 => ?_, fun i q1 q2 => ?_⟩
    · rw [← mtv_cong (h a q1 (by omega)).1 (h b (by omega) q3).1, ← (h a q1 (by omega)).2, ← (h b (by omega) q3).2]
      exact a1 a b q1 q2 q3
    · rw [← znv_cong (h i q1 q2).1]
      exact a2 i q1 q2
  · rintro ⟨a1, a2⟩
    refine ⟨fun a b q1 q2 q3 => ?_, fun i q1 q2 => ?_⟩
    · rw [mtv_cong (h a q1 (by omega)).1 (h b (by omega) q3).1, (h a q1 (by omega)).2, (h b (by omega) q3).2]
      exact a1 a b q1 q2 q3
    · rw [znv_cong (h i q1 q2).1]
      exact a2 i q1 q2
theorem s_Pass_isInZone {p i : Int} {Q : Int → sk_S → Prop} {I : sk_S} (hp : kd p = 4) (hi : 0 ≤ i ∧ i < 10) (ha : iAir I) (wi : inW (stC I p) (spC I p) i) (h1 : znv (stC I p) (spC I p) (I 36 1) (I 36 2) (I 36 3) i → Q 1 I) (h0 : ¬ znv (stC I p) (spC I p) (I 36 1) (I 36 2) (I 36 3) i → Q 0 I) : M_Pass_isInZone p i Q I := by
  have l : ln (p + 1 + 1) = 80 := by rw [show p + 1 + 1 = p + 2 by omega]; exact ln4 hp
  have w0 := wi 0 (by decide) (by decide)
  have w1 := wi 1 (by decide) (by decide)
  obtain ⟨_, a2, a3, a4, _⟩ := ha
  have b2 := a2.2
  have b3 := a3.2
  have b4 := a4.2
  unfold rg at b2 b3 b4
  unfold znv at h1 h0
  unfold stC spC at *
  have e : p + 1 + 1 = p + 2 := by omega
  refine ⟨by omega, s_Row_at (by rw [l]; omega) ⟨by omega, s_Row_at (by rw [l]; omega) ⟨by omega, s_Row_at (by rw [l]; omega) ?_⟩⟩⟩
  rw [e]
  refine ⟨by omega, nm ⟨by omega, s_Row_at (by rw [e, ← e, l]; omega) ?_⟩⟩
  rw [e]
  refine ⟨by omega, nm ⟨by omega, by omega, by omega, by omega, ?_⟩⟩
  exact s_isNearer (by omega) (by omega) (by omega) (by omega) (by omega) (by omega) (by omega) h1 h0
theorem s_isAnyInZone {p n : Int} {Q : Int → sk_S → Prop} {I : sk_S} (hp : kd p = 4) (hn : I p 1 = n) (hn2 : 0 ≤ n ∧ n ≤ 10) (ha : iAir I) (wi : ∀ i : Int, 0 ≤ i → i < n → inW (stC I p) (spC I p) i) (h0 : (∀ i : Int, 0 ≤ i → i < n → ¬ znv (stC I p) (spC I p) (I 36 1) (I 36 2) (I 36 3) i) → Q 0 I) (h1 : ¬ (∀ i : Int, 0 ≤ i → i < n → ¬ znv (stC I p) (spC I p) (I 36 1) (I 36 2) (I 36 3) i) → Q 1 I) : M_Pass_isAnyInZone p Q I := by
  intro X hX
  have key : ∀ (m : Nat) (i : Int), i + m = n → 0 ≤ i → (∀ j : Int, 0 ≤ j → j < i → ¬ znv (stC I p) (spC I p) (I 36 1) (I 36 2) (I 36 3) j) → X i I := by
    intro m
    induction m with
    | zero =>
      intro i e1 e2 e3
      obtain rfl : i = n := by omega
      exact hX _ _ (bT (by omega) (h0 e3))
    | succ m ih =>
      intro i e1 e2 e3
      refine hX _ _ (bF (by omega) (s_Pass_isInZone hp (by omega) ha (wi i e2 (by omega)) (fun z => z1 (h1 fun g => g i e2 (by omega) z)) (fun z => z0 ⟨by omega, nm (ih (i + 1) (by omega) (by omega) fun j j1 j2 => ?_)⟩)))
      by_cases c : j = i
      · subst c; exact z
      · exact e3 j j1 (by omega)
  exact key n.toNat 0 (by omega) (by omega) (fun j j1 j2 => by omega)
def wtC (I : sk_S) (p i : Int) : Int := I (p + 2) (i * 8 + 7)
theorem s_delayOf {p i : Int} {Q : Int → sk_S → Prop} {I : sk_S} (hp : kd p = 4) (hi : 0 ≤ i ∧ i < 10) (h : Q (wtC I p i) I) : M_Pass_delayOf p i Q I := by
  have l : ln (p + 1 + 1) = 80 := by rw [show p + 1 + 1 = p + 2 by omega]; exact ln4 hp
  refine ⟨by omega, s_Row_at (by rw [l]; omega) ?_⟩
  rw [show p + 1 + 1 = p + 2 by omega]
  exact h
theorem s_Pass_isClean {p n : Int} {Q : Int → sk_S → Prop} {I : sk_S} (hp : kd p = 4) (hn : I p 1 = n) (hn2 : 0 ≤ n ∧ n ≤ 10) (hT : 0 < n → 1 ≤ I p 2 ∧ I p 2 ≤ 30) (ha : iAir I) (hd : ∀ i : Int, 0 ≤ i → i < n → 0 ≤ wtC I p i ∧ wtC I p i ≤ 9) (wi : ∀ i : Int, 0 ≤ i → i < n → inW (stC I p) (spC I p) i) (h1 : cleanP (I p 2) (I 36 0) (stC I p) (spC I p) (wtC I p) (I 36 1) (I 36 2) (I 36 3) n → Q 1 I) (h0 : ¬ cleanP (I p 2) (I 36 0) (stC I p) (spC I p) (wtC I p) (I 36 1) (I 36 2) (I 36 3) n → Q 0 I) : M_Pass_isClean p Q I := by
  have hG := ha.1.2
  unfold rg at hG
  intro X hX
  have key : ∀ (m : Nat) (a : Int), a + m = n → 0 ≤ a → (∀ a' b : Int, 0 ≤ a' → a' < a → a' < b → b < n → ¬ mtv (I p 2) (I 36 0) (stC I p) (spC I p) a' b (wtC I p b - wtC I p a')) → X a I := by
    intro m
    induction m with
    | zero =>
      intro a e1 e2 e3
      obtain rfl : a = n := by omega
      refine hX _ _ (bT (by omega) (s_isAnyInZone hp hn hn2 ha wi (fun z => n0 (h1 ⟨fun a' b q1 q2 q3 => e3 a' b q1 (by omega) q2 q3, z⟩)) (fun z => n1 (h0 fun g => z g.2))))
    | succ m ih =>
      intro a e1 e2 e3
      have hT' := hT (by omega)
      refine hX _ _ (bF (by omega) ⟨by omega, nm ?_⟩)
      intro Y hY
      have inner : ∀ (r : Nat) (b : Int), b + r = n → a < b → (∀ b' : Int, a < b' → b' < b → ¬ mtv (I p 2) (I 36 0) (stC I p) (spC I p) a b' (wtC I p b' - wtC I p a)) → Y b I := by
        intro r
        induction r with
        | zero =>
          intro b f1 f2 f3
          refine hY _ _ (bT (by omega) ⟨by omega, nm (ih (a + 1) (by omega) (by omega) fun a' b' q1 q2 q3 q4 => ?_)⟩)
          by_cases c : a' = a
          · subst c; exact f3 b' q3 (by omega)
          · exact e3 a' b' q1 (by omega) q3 q4
        | succ r ih2 =>
          intro b f1 f2 f3
          have d1 := hd a e2 (by omega)
          have d2 := hd b (by omega) (by omega)
          refine hY _ _ (bF (by omega) (s_delayOf hp (by omega) (s_delayOf hp (by omega) ⟨by omega, s_meet hp (by omega) (by omega) hT' hG (by omega) (wi a e2 (by omega)) (wi b (by omega) (by omega)) (fun q => z1 (h0 fun g => g.1 a b e2 f2 (by omega) q)) (fun q => z0 ⟨by omega, nm (ih2 (b + 1) (by omega) (by omega) fun b' g1 g2 => ?_)⟩)⟩)))
          by_cases c : b' = b
          · subst c; exact q
          · exact f3 b' g1 (by omega)
      exact inner (n - (a + 1)).toNat (a + 1) (by omega) (by omega) (fun b' g1 g2 => by omega)
  exact key n.toNat 0 (by omega) (by omega) (fun a' b q1 q2 => by omega)
theorem s_Mo_isClean {sl T n : Int} {Q : Int → sk_S → Prop} {I : sk_S} (hsl : 0 ≤ sl ∧ sl < 2) (hn : I 176 sl = n) (hn2 : 0 ≤ n ∧ n ≤ 10) (eT : 0 < n → I 175 sl = T) (hT : 0 < n → 1 ≤ T ∧ T ≤ 30) (ha : iAir I) (hd : ∀ i : Int, 0 ≤ i → i < n → 0 ≤ wtM I sl i ∧ wtM I sl i ≤ 9) (wi : ∀ i : Int, 0 ≤ i → i < n → inW (stM I sl) (spM I sl) i) (h1 : cleanP T (I 36 0) (stM I sl) (spM I sl) (wtM I sl) (I 36 1) (I 36 2) (I 36 3) n → Q 1 I) (h0 : ¬ cleanP T (I 36 0) (stM I sl) (spM I sl) (wtM I sl) (I 36 1) (I 36 2) (I 36 3) n → Q 0 I) : M_Mo_isClean sl Q I := by
  obtain ⟨a1, a2, a3, a4, _⟩ := ha
  rw [a1.1, a2.1, a3.1, a4.1] at h1 h0
  have b1 := a1.2
  have b2 := a2.2
  have b3 := a3.2
  have b4 := a4.2
  unfold rg at b1 b2 b3 b4
  rw [a1.1] at b1
  rw [a2.1] at b2
  rw [a3.1] at b3
  rw [a4.1] at b4
  refine ⟨by omega, nm ?_⟩
  intro X hX
  have key : ∀ (m : Nat) (a : Int), a + m = n → 0 ≤ a → (∀ b c : Int, 0 ≤ c → c < b → b < a → ¬ mtv T (I 158 10) (stM I sl) (spM I sl) c b (wtM I sl b - wtM I sl c)) → (∀ b : Int, 0 ≤ b → b < a → ¬ znv (stM I sl) (spM I sl) (I 158 11) (I 158 12) (I 158 13) b) → X (10 * sl + a) I := by
    intro m
    induction m with
    | zero =>
      intro a e1 e2 e3 e4
      obtain rfl : a = n := by omega
      exact hX _ _ ⟨hsl, by omega, bT (by omega) (h1 ⟨fun c b q1 q2 q3 => e3 b c q1 q2 q3, e4⟩)⟩
    | succ m ih =>
      intro a e1 e2 e3 e4
      have eT' := eT (by omega)
      have hT' := hT (by omega)
      refine hX _ _ ⟨hsl, by omega, bF (by omega) ⟨hsl, ?_⟩⟩
      rw [eT']
      refine s_Mo_enters (by omega) hT' b2 b3 b4 (hd a e2 (by omega)) (wi a e2 (by omega)) (fun z => z1 (h0 fun g => g.2 a e2 (by omega) z)) (fun z => z0 ⟨by omega, nm ?_⟩)
      intro Y hY
      have inner : ∀ (r : Nat) (b : Int), b + r = a → 0 ≤ b → (∀ b' : Int, 0 ≤ b' → b' < b → ¬ mtv T (I 158 10) (stM I sl) (spM I sl) b' a (wtM I sl a - wtM I sl b')) → Y (10 * sl + b) I := by
        intro r
        induction r with
        | zero =>
          intro b f1 f2 f3
          obtain rfl : b = a := by omega
          refine hY _ _ (bT (Int.le_refl _) ⟨by omega, nm ?_⟩)
          have := ih (b + 1) (by omega) (by omega) (fun b' c q1 q2 q3 => by
            by_cases e : b' = b
            · subst e; exact f3 c q1 q2
            · exact e3 b' c q1 q2 (by omega)) (fun b' q1 q2 => by
            by_cases e : b' = b
            · subst e; exact z
            · exact e4 b' q1 (by omega))
          rw [show 10 * sl + b + 1 = 10 * sl + (b + 1) by omega]
          exact this
        | succ r ih2 =>
          intro b f1 f2 f3
          refine hY _ _ (bF (by omega) ⟨hsl, ?_⟩)
          rw [eT']
          have sy := mtv_sym (T := T) (G := I 158 10) (st := stM I sl) (sp := spM I sl) (a := a) (b := b) (lag := wtM I sl b - wtM I sl a) (lag' := wtM I sl a - wtM I sl b) (by omega)
          refine s_Mo_clash (by omega) (by omega) hT' b1 (hd a e2 (by omega)) (hd b f2 (by omega)) (wi a e2 (by omega)) (wi b f2 (by omega)) (fun q => z1 (h0 fun g => g.1 b a f2 (by omega) (by omega) (sy.1 q))) (fun q => z0 ⟨by omega, nm ?_⟩)
          rw [show 10 * sl + b + 1 = 10 * sl + (b + 1) by omega]
          refine ih2 (b + 1) (by omega) (by omega) (fun b' g1 g2 => ?_)
          by_cases e : b' = b
          · subst e; exact fun w => q (sy.2 w)
          · exact f3 b' g1 (by omega)
      have := inner a.toNat 0 (by omega) (by omega) (fun b' g1 g2 => by omega)
      rwa [Int.add_zero] at this
  have := key n.toNat 0 (by omega) (by omega) (fun b c q1 q2 q3 => by omega) (fun b q1 q2 => by omega)
  rwa [Int.add_zero] at this
/-! the latest pass: what the class holds of it, the reference holds too -/
theorem lp_eq {I : sk_S} (h : iPass I) {i : Int} (hi : 0 ≤ i ∧ i < I 44 1) : (∀ c : Int, 0 ≤ c → c < 3 → stC I 44 i c = stM I 0 i c ∧ spC I 44 i c = spM I 0 i c) ∧ wtC I 44 i = wtM I 0 i := by
  obtain ⟨g1, g2, g3⟩ := h.2.2.2 i hi.1 hi.2
  unfold stC spC stM spM wtC wtM
  rw [show 10 * 0 + i = i by omega, show (44 : Int) + 2 = 46 from rfl]
  exact ⟨fun c c1 c2 => (g3 c c1 c2).1, g2.1⟩
theorem lp_inM {I : sk_S} (h : iPass I) {i : Int} (hi : 0 ≤ i ∧ i < I 44 1) : inW (stM I 0) (spM I 0) i := fun c c1 c2 => by
  have g := ((h.2.2.2 i hi.1 hi.2).2.2 c c1 c2).2
  unfold rg at g
  unfold stM spM
  rw [show 10 * 0 + i = i by omega]
  omega
theorem lp_inC {I : sk_S} (h : iPass I) {i : Int} (hi : 0 ≤ i ∧ i < I 44 1) : inW (stC I 44) (spC I 44) i := fun c c1 c2 => by
  have e := (lp_eq h hi).1 c c1 c2
  rw [e.1, e.2]
  exact lp_inM h hi c c1 c2
theorem lp_wtM {I : sk_S} (h : iPass I) {i : Int} (hi : 0 ≤ i ∧ i < I 44 1) : 0 ≤ wtM I 0 i ∧ wtM I 0 i ≤ 9 := by
  have g := (h.2.2.2 i hi.1 hi.2).2.1.2
  unfold rg at g
  unfold wtM
  rw [show 10 * 0 + i = i by omega]
  exact g
theorem lp_wtC {I : sk_S} (h : iPass I) {i : Int} (hi : 0 ≤ i ∧ i < I 44 1) : 0 ≤ wtC I 44 i ∧ wtC I 44 i ≤ 9 := by
  rw [(lp_eq h hi).2]
  exact lp_wtM h hi
theorem pass_top {I : sk_S} (h : iPass I) : I 44 1 = I 176 0 ∧ (0 ≤ I 44 1 ∧ I 44 1 ≤ 10) ∧ (0 < I 44 1 → I 44 2 = I 175 0 ∧ 1 ≤ I 44 2 ∧ I 44 2 ≤ 30) := ⟨h.1, h.2.1, fun q => h.2.2.1 q⟩
theorem step_clash {I : sk_S} (h : Inv I) (x y : Int) {Q : Int → sk_S → Prop} (hQ : ∀ r I1, Two (M_Mo_clash_ x y) r I1 → Q r I1) : M_Sky_clash x y Q I := by
  have h5 := h.2.2.2.2.1
  have ha := h.2.2.1
  have hG := ha.1.2
  have eG := ha.1.1
  unfold rg at hG
  obtain ⟨p1, p2, p3⟩ := pass_top h5
  by_cases qx : 0 ≤ x ∧ x < I 44 1
  · refine s_Pass_has (fun _ => z1 ?_) (fun p => absurd qx p)
    by_cases qy : 0 ≤ y ∧ y < I 44 1
    · refine s_Pass_has (fun _ => n1 ?_) (fun p => absurd qy p)
      obtain ⟨t1, t2⟩ := p3 (by omega)
      by_cases e : x = y
      · refine nF e (hQ _ _ fun K hK => ?_)
        exact s_isOfPass (fun _ => z1 (s_isOfPass (fun _ => n1 (nF e (Ok.use hK ⟨rfl, h⟩))) (fun p => absurd (by omega) p))) (fun p => absurd (by omega) p)
      · have cx := lp_wtC h5 qx
        have cy := lp_wtC h5 qy
        have ex := lp_eq h5 qx
        have ey := lp_eq h5 qy
        have mo : ∀ (r : Int) (K : Int → sk_S → Prop), (∀ J, Inv J → K r J) → (mtv (I 44 2) (I 36 0) (stC I 44) (spC I 44) x y (wtC I 44 y - wtC I 44 x) → r = 1) → (¬ mtv (I 44 2) (I 36 0) (stC I 44) (spC I 44) x y (wtC I 44 y - wtC I 44 x) → r = 0) → M_Mo_clash_ x y K I := fun r K hK r1 r0 => by
          refine s_isOfPass (fun _ => z1 (s_isOfPass (fun _ => n1 (nT e ⟨by decide, ?_⟩)) (fun p => absurd (by omega) p))) (fun p => absurd (by omega) p)
          rw [mtv_cong ex.1 ey.1, ex.2, ey.2, eG] at r1 r0
          rw [← t1]
          have c := s_Mo_clash (sl := 0) (i := x) (j := y) (T := I 44 2) (I := I) (Q := fun r_35 I_35 => ((r_35 = 0 → K 0 I_35) ∧ (¬ r_35 = 0 → K 1 I_35))) (by omega) (by omega) t2 (by rw [← eG]; exact hG) (lp_wtM h5 qx) (lp_wtM h5 qy) (lp_inM h5 qx) (lp_inM h5 qy) (fun q => z1 (by rw [← r1 q]; exact hK _ h)) (fun q => z0 (by rw [← r0 q]; exact hK _ h))
          rw [show 10 * 0 + x = x by omega, show 10 * 0 + y = y by omega] at c
          exact c
        refine nT e (s_delayOf kdn_44 (by omega) (s_delayOf kdn_44 (by omega) ⟨by omega, s_meet kdn_44 (by omega) (by omega) t2 hG (by omega) (lp_inC h5 qx) (lp_inC h5 qy) (fun q => s_bit (Or.inr rfl) (hQ _ _ fun K hK => mo 1 K hK (fun _ => rfl) (fun p => absurd q p))) (fun q => s_bit (Or.inl rfl) (hQ _ _ fun K hK => mo 0 K hK (fun p => absurd p q) (fun _ => rfl)))⟩))
    · refine s_Pass_has (fun p => absurd p qy) (fun _ => n0 (hQ _ _ fun K hK => ?_))
      exact s_isOfPass (fun _ => z1 (s_isOfPass (fun p => absurd (by omega) qy) (fun _ => n0 (Ok.use hK ⟨rfl, h⟩)))) (fun p => absurd (by omega) p)
  · refine s_Pass_has (fun p => absurd p qx) (fun _ => z0 (hQ _ _ fun K hK => ?_))
    exact s_isOfPass (fun p => absurd (by omega) qx) (fun _ => z0 (Ok.use hK ⟨rfl, h⟩))
theorem step_enters {I : sk_S} (h : Inv I) (x : Int) {Q : Int → sk_S → Prop} (hQ : ∀ r I1, Two (M_Mo_enters_ x) r I1 → Q r I1) : M_Sky_enters x Q I := by
  have h5 := h.2.2.2.2.1
  have ha := h.2.2.1
  obtain ⟨a1, a2, a3, a4, _⟩ := id ha
  have b2 := a2.2
  have b3 := a3.2
  have b4 := a4.2
  unfold rg at b2 b3 b4
  obtain ⟨p1, p2, p3⟩ := pass_top h5
  by_cases qx : 0 ≤ x ∧ x < I 44 1
  · obtain ⟨t1, t2⟩ := p3 (by omega)
    have mo : ∀ (r : Int) (K : Int → sk_S → Prop), (∀ J, Inv J → K r J) → (znv (stC I 44) (spC I 44) (I 36 1) (I 36 2) (I 36 3) x → r = 1) → (¬ znv (stC I 44) (spC I 44) (I 36 1) (I 36 2) (I 36 3) x → r = 0) → M_Mo_enters_ x K I := fun r K hK r1 r0 => by
      refine s_isOfPass (fun _ => n1 ⟨by decide, ?_⟩) (fun p => absurd (by omega) p)
      rw [znv_cong (lp_eq h5 qx).1, a2.1, a3.1, a4.1] at r1 r0
      rw [← t1]
      have c := s_Mo_enters (sl := 0) (i := x) (T := I 44 2) (I := I) (Q := fun r_20 I_20 => ((r_20 = 0 → K 0 I_20) ∧ (¬ r_20 = 0 → K 1 I_20))) (by omega) t2 (by rw [← a2.1]; exact b2) (by rw [← a3.1]; exact b3) (by rw [← a4.1]; exact b4) (lp_wtM h5 qx) (lp_inM h5 qx) (fun q => z1 (by rw [← r1 q]; exact hK _ h)) (fun q => z0 (by rw [← r0 q]; exact hK _ h))
      rw [show 10 * 0 + x = x by omega] at c
      exact c
    refine s_Pass_has (fun _ => z1 (s_Pass_isInZone kdn_44 (by omega) ha (lp_inC h5 qx) (fun q => s_bit (Or.inr rfl) (hQ _ _ fun K hK => mo 1 K hK (fun _ => rfl) (fun p => absurd q p))) (fun q => s_bit (Or.inl rfl) (hQ _ _ fun K hK => mo 0 K hK (fun p => absurd p q) (fun _ => rfl))))) (fun p => absurd qx p)
  · refine s_Pass_has (fun p => absurd p qx) (fun _ => z0 (hQ _ _ fun K hK => ?_))
    exact s_isOfPass (fun p => absurd (by omega) qx) (fun _ => n0 (Ok.use hK ⟨rfl, h⟩))
theorem step_clean {I : sk_S} (h : Inv I) {Q : Int → sk_S → Prop} (hQ : ∀ r I1, Two M_Mo_clean r I1 → Q r I1) : M_Sky_clean Q I := by
  have h5 := h.2.2.2.2.1
  have ha := h.2.2.1
  obtain ⟨p1, p2, p3⟩ := pass_top h5
  by_cases qn : I 44 1 ≤ 0
  · refine bT qn (hQ _ _ fun K hK => ⟨by decide, nF (by omega) (Ok.use hK ⟨rfl, h⟩)⟩)
  · obtain ⟨t1, t2⟩ := p3 (by omega)
    have cg := cleanP_cong (T := I 44 2) (G := I 36 0) (zx := I 36 1) (zy := I 36 2) (R := I 36 3) (fun i i1 i2 => lp_eq h5 (i := i) ⟨i1, i2⟩)
    have mo : ∀ (r : Int) (K : Int → sk_S → Prop), (∀ J, Inv J → K r J) → (cleanP (I 44 2) (I 36 0) (stC I 44) (spC I 44) (wtC I 44) (I 36 1) (I 36 2) (I 36 3) (I 44 1) → r = 1) → (¬ cleanP (I 44 2) (I 36 0) (stC I 44) (spC I 44) (wtC I 44) (I 36 1) (I 36 2) (I 36 3) (I 44 1) → r = 0) → M_Mo_clean K I := fun r K hK r1 r0 => by
      rw [cg] at r1 r0
      refine ⟨by decide, nT (by omega) (s_Mo_isClean (T := I 44 2) (n := I 44 1) (by decide) p1.symm p2 (fun _ => t1.symm) (fun _ => t2) ha (fun i i1 i2 => lp_wtM h5 ⟨i1, i2⟩) (fun i i1 i2 => lp_inM h5 ⟨i1, i2⟩) (fun q => z1 (by rw [← r1 q]; exact hK _ h)) (fun q => z0 (by rw [← r0 q]; exact hK _ h)))⟩
    exact bF qn (s_Pass_isClean kdn_44 rfl p2 (fun _ => t2) ha (fun i i1 i2 => lp_wtC h5 ⟨i1, i2⟩) (fun i i1 i2 => lp_inC h5 ⟨i1, i2⟩) (fun q => s_bit (Or.inr rfl) (hQ _ _ fun K hK => mo 1 K hK (fun _ => rfl) (fun p => absurd q p))) (fun q => s_bit (Or.inl rfl) (hQ _ _ fun K hK => mo 0 K hK (fun p => absurd p q) (fun _ => rfl))))
