/-! ===== scene ===== -/
/-- a pass at p of L leads from F to T of I -/
def isPs2 (I L : sk_S) (p F T n : Int) : Prop := L p 1 = n ∧ ∀ i : Int, 0 ≤ i → i < n → (L (p + 2) (i * 8 + 6) = gl I F T n i ∧ 0 ≤ gl I F T n i ∧ gl I F T n i < n) ∧ L (p + 2) (i * 8 + 7) = 0 ∧ ∀ c : Int, 0 ≤ c → c < 3 → L (p + 2) (i * 8 + c) = pc I F i c ∧ L (p + 2) (i * 8 + 3 + c) = pc I T (gl I F T n i) c - pc I F i c
theorem isPs2.cong {I L K : sk_S} {p F T n : Int} (h : isPs2 I L p F T n) (e1 : K p 1 = L p 1) (e2 : ∀ k, K (p + 2) k = L (p + 2) k) : isPs2 I K p F T n := by
  unfold isPs2 at *
  rw [e1]
  simp only [e2]
  exact h
theorem isPs2.fin {I K : sk_S} {p F T n : Int} (h : isPs2 I K p F T n) (hs : sameFig I K) (hF : -1 ≤ F ∧ F < I 4 3) (hT : -1 ≤ T ∧ T < I 4 3) : isPs K p F T n := by
  unfold isPs2 at h
  unfold isPs
  simp only [gl_cong hs hF hT, pc_cong hs hF, pc_cong hs hT]
  exact h
theorem pa_top {f : Int} (h : -1 ≤ f ∧ f < 8) : 5 ≤ pa f ∧ pa f ≤ 33 := by
  unfold pa
  split <;> omega
theorem s_leadI {I J : sk_S} (h : Inv I) {p0 F T ticks : Int} {Q : Int → sk_S → Prop} (hJ : ∀ a k, a < 37 → J a k = I a k) (h0 : kd p0 = 4) (l0 : 43 < p0) (hF : -1 ≤ F ∧ F < I 4 3) (hT : -1 ≤ T ∧ T < I 4 3) (zF : I (pa F) 1 = I 5 1) (zT : I (pa T) 1 = I 5 1) (hQ : ∀ (r : Int) (L : sk_S), (∀ a k, a ≠ 39 → a ≠ 41 → a ≠ 43 → ¬ (a = p0 ∧ (k = 1 ∨ k = 2)) → a ≠ p0 + 2 → L a k = J a k) → L p0 2 = ticks → isPs2 I L p0 F T (I 5 1) → Q r L) : M_Pass_lead p0 (pa F) (pa T) ticks Q J := by
  have hl := fly_top h
  have hp := pic_top h
  have tF := pa_top (f := F) (by omega)
  have tT := pa_top (f := T) (by omega)
  obtain ⟨N, eN⟩ : ∃ N : Nat, I 5 1 = N := ⟨(I 5 1).toNat, by omega⟩
  have ew : (fun i j : Nat => wv J (pa F) (pa T) i j) = wayf I F T := by
    funext i j
    unfold wv
    simp only [hJ (pa F + 2) _ (show pa F + 2 < 37 by omega), hJ (pa T + 2) _ (show pa T + 2 < 37 by omega)]
    rfl
  have hnear : ∀ i j : Nat, i < N → j < N → near400 J (pa F) (pa T) i j := fun i j a b c c1 c2 => by
    rw [hJ (pa F + 2) _ (by omega), hJ (pa T + 2) _ (by omega)]
    exact near_of h hF hT (i := i) (j := j) (by omega) (by omega) c c1 c2
  have hw : Wb (wayf I F T) N := fun i j a b => by
    rw [← ew]
    exact wv_rg (hnear i j a b)
  refine s_lead h0 l0 (kd_pa (by omega)) (kd_pa (by omega)) (by omega) (by omega) (by omega) (by rw [hJ _ _ (by omega), zF]; exact eN) (by rw [hJ _ _ (by omega), zT]; exact eN) hnear (fun L hL l1 l2 l3 => hQ _ L hL l2 ⟨by rw [eN]; exact l1, fun i i1 i2 => ?_⟩)
  obtain ⟨k, rfl⟩ : ∃ k : Nat, i = k := ⟨i.toNat, by omega⟩
  obtain ⟨g1, g2, g3⟩ := l3 k (by omega)
  have hlt := goalf_lt (show N < 11 by omega) hw (i := k) (by omega)
  have eg : gl I F T (I 5 1) k = (goalf (wayf I F T) N k : Nat) := by
    unfold gl
    rw [eN, Int.toNat_natCast, Int.toNat_natCast]
  rw [ew] at g1 g2
  rw [eg]
  refine ⟨⟨g2, by omega, by omega⟩, g3, fun c c1 c2 => ?_⟩
  have e := g1 c c1 c2
  rw [hJ (pa F + 2) _ (by omega), hJ (pa T + 2) _ (by omega)] at e
  exact e
theorem s_lastFigure {n : Int} {Q : Int → sk_S → Prop} {J : sk_S} (e : J 54 3 = n) (hn : 0 ≤ n ∧ n ≤ 12) (h : Q (if n = 0 then -1 else J (65 + 7 * (n - 1)) 2) J) : M_Show_lastFigure Q J := by
  subst e
  refine ⟨fun c => ?_, fun c => ⟨by omega, s_Show_at (by omega) ?_⟩⟩
  · rwa [if_pos (by omega)] at h
  · rwa [if_neg (by omega)] at h
theorem iShow_more {I K : sk_S} (h : Inv I) {n fig ticks hold cue : Int} (en : I 54 3 = n) (hn : n < 12) (hf : 0 ≤ fig ∧ fig < I 4 3) (zf : I (pa fig) 1 = I 5 1) (ht : 1 ≤ ticks ∧ ticks ≤ 30) (hh : 0 ≤ hold ∧ hold ≤ 100) (hc : 0 ≤ cue ∧ cue ≤ 255) (e : ∀ a k, (a ≤ 36 ∨ (65 ≤ a ∧ a < 65 + 7 * n) ∨ (185 ≤ a ∧ a ≤ 188 ∧ k < n) ∨ (a = 189 ∧ k < 10 * n)) → K a k = I a k) (k1 : K 54 3 = n + 1) (k2 : K 158 41 = n + 1) (c2 : K (65 + 7 * n) 2 = fig) (c3 : K (65 + 7 * n) 3 = hold) (c4 : K (65 + 7 * n) 4 = cue) (c5 : K (66 + 7 * n) 2 = ticks) (c6 : K (69 + 7 * n) 2 = ticks) (w1 : isPs2 I K (66 + 7 * n) (pr I n) fig (I 5 1)) (w2 : isPs2 I K (69 + 7 * n) fig (-1) (I 5 1)) (m5 : K 185 n = fig) (m6 : K 186 n = ticks) (m7 : K 187 n = hold) (m8 : K 188 n = cue) (m9 : ∀ f : Int, 0 ≤ f → f < I 5 1 → K 189 (10 * n + f) = gl I (pr I n) fig (I 5 1) (sa I n f)) : iShow K := by
  have hl := fly_top h
  have hp := pic_top h
  have hst := show_top h
  have e5 : K 5 1 = I 5 1 := e _ _ (by omega)
  have e43 : K 4 3 = I 4 3 := e _ _ (by omega)
  have hsame : sameFig I K := fun f q1 q2 k => by
    have := pa_top (f := f) (by omega)
    by_cases c : pa f ≤ 34
    · exact ⟨e _ _ (by omega), e _ _ (by omega)⟩
    · exact ⟨e _ _ (by omega), e _ _ (by omega)⟩
  have hpr : ∀ s : Int, 0 ≤ s → s ≤ n → pr K s = pr I s := fun s s1 s2 => by
    unfold pr
    split
    · rfl
    · exact e _ _ (by omega)
  have hsa : ∀ s f : Int, 0 ≤ s → s ≤ n → 0 ≤ f → f < I 5 1 → sa K s f = sa I s f := fun s f s1 s2 f1 f2 => by
    unfold sa
    split
    · rfl
    · exact e _ _ (by omega)
  have hpp : ∀ s : Int, 0 ≤ s → s ≤ n → -1 ≤ pr I s ∧ pr I s < I 4 3 := fun s s1 s2 => pr_rg h (by omega)
  unfold iShow
  rw [k1, k2, e5, e43]
  refine ⟨rfl, ⟨by omega, by omega⟩, fun s s1 s2 => ?_⟩
  by_cases c : s = n
  · subst c
    rw [c2, c3, c4, c5, c6, m5, m6, m7, m8, hpr s s1 (Int.le_refl _)]
    have e12 : K (12 + 3 * fig) 1 = I 5 1 := by
      rw [← pa_f hf.1, e _ _ (by have := pa_top (f := fig) (by omega); omega)]
      exact zf
    refine ⟨⟨⟨rfl, hf.1, hf.2, e12⟩, ⟨rfl, rfl, ht⟩, ⟨rfl, hh⟩, rfl, hc⟩, w1.fin hsame (hpp s s1 (Int.le_refl _)) (by omega), w2.fin hsame (by omega) (by omega), fun f f1 f2 => ?_⟩
    rw [hsa s f s1 (Int.le_refl _) f1 f2, gl_cong hsame (hpp s s1 (Int.le_refl _)) (by omega)]
    exact ⟨sa_all h (by omega) ⟨f1, f2⟩, m9 f f1 f2⟩
  · have k := sc_at h (s := s) ⟨s1, by omega⟩
    have hfk := k.1.1.2
    have ep := hpp s s1 (by omega)
    have e12 : K (12 + 3 * I (65 + 7 * s) 2) 1 = I (12 + 3 * I (65 + 7 * s) 2) 1 := e _ _ (by omega)
    rw [e (65 + 7 * s) 2 (by omega), e12, e 185 _ (by omega), e (66 + 7 * s) _ (by omega), e (69 + 7 * s) _ (by omega), e 186 _ (by omega), e (65 + 7 * s) 3 (by omega), e (65 + 7 * s) 4 (by omega), e 187 _ (by omega), e 188 _ (by omega), hpr s s1 (by omega)]
    refine ⟨k.1, k.2.1.cong hsame ep (by omega) (e _ _ (by omega)) (fun t => e _ _ (by omega)), k.2.2.1.cong hsame (by omega) (by omega) (e _ _ (by omega)) (fun t => e _ _ (by omega)), fun f f1 f2 => ?_⟩
    rw [hsa s f s1 (by omega) f1 f2, gl_cong hsame ep (by omega), e 189 _ (by omega)]
    exact k.2.2.2 f f1 f2
theorem s_sceneM {I J : sk_S} (h : Inv I) (hJ : ∀ a k, 158 ≤ a → J a k = I a k) {n fig ticks hold cue : Int} (en : I 54 3 = n) (hn : n < 12) (hf : 0 ≤ fig ∧ fig < I 4 3) (zf : I (pa fig) 1 = I 5 1) {Q : Int → sk_S → Prop}
    (hQ : ∀ K : sk_S, (∀ a k, ¬ dScr a k → ¬ (185 ≤ a ∧ a ≤ 188 ∧ k = n) → ¬ (a = 158 ∧ k = 41) → ¬ (a = 189 ∧ 10 * n ≤ k) → K a k = J a k) → K 185 n = fig → K 186 n = ticks → K 187 n = hold → K 188 n = cue → K 158 41 = n + 1 → (∀ f : Int, 0 ≤ f → f < I 5 1 → K 189 (10 * n + f) = gl I (pr I n) fig (I 5 1) (sa I n f)) → Q n K) :
    M_Mo_looksAt n (fun I_130 => L_Mo_scene_136 n Q 0 I_130) (up (up (up (up (up J 185 n fig) 186 n ticks) 187 n hold) 188 n cue) 158 41 (n + 1)) := by
  have hl := fly_top h
  have hp := pic_top h
  have hst := show_top h
  obtain ⟨N, eN⟩ : ∃ N : Nat, I 5 1 = N := ⟨(I 5 1).toNat, by omega⟩
  generalize hJ1 : up (up (up (up (up J 185 n fig) 186 n ticks) 187 n hold) 188 n cue) 158 41 (n + 1) = J1
  have u : ∀ a k, J1 a k = if a = 158 ∧ k = 41 then n + 1 else if a = 188 ∧ k = n then cue else if a = 187 ∧ k = n then hold else if a = 186 ∧ k = n then ticks else if a = 185 ∧ k = n then fig else J a k := fun a k => by
    rw [← hJ1]
    unfold up
    rfl
  have o : ∀ a k, ¬ (a = 158 ∧ k = 41) → ¬ (185 ≤ a ∧ a ≤ 188 ∧ k = n) → J1 a k = J a k := fun a k q1 q2 => by
    rw [u, if_neg q1, if_neg (by omega), if_neg (by omega), if_neg (by omega), if_neg (by omega)]
  have v5 : J1 185 n = fig := by rw [u, if_neg (by omega), if_neg (by omega), if_neg (by omega), if_neg (by omega), if_pos ⟨rfl, rfl⟩]
  have v6 : J1 186 n = ticks := by rw [u, if_neg (by omega), if_neg (by omega), if_neg (by omega), if_pos ⟨rfl, rfl⟩]
  have v7 : J1 187 n = hold := by rw [u, if_neg (by omega), if_neg (by omega), if_pos ⟨rfl, rfl⟩]
  have v8 : J1 188 n = cue := by rw [u, if_neg (by omega), if_pos ⟨rfl, rfl⟩]
  have v41 : J1 158 41 = n + 1 := by rw [u, if_pos ⟨rfl, rfl⟩]
  have oI : ∀ a k, 159 ≤ a → a ≤ 165 → J1 a k = I a k := fun a k q1 q2 => by rw [o a k (by omega) (by omega)]; exact hJ a k (by omega)
  have rp := pr_rg h (s := n) (by omega)
  have zp := pr_size h (s := n) (by omega)
  have sz : (if 0 ≤ fig then J1 162 fig else J1 158 8) = N := by
    have := sz_pa h (f := fig) (by omega)
    rw [oI 162 _ (by decide) (by decide), o 158 8 (by omega) (by omega), hJ 158 8 (by decide), this, zf]
    exact eN
  refine s_looksAt (F := pr I n) (T := fig) (t := ticks) (by omega) (fun q => by omega) (fun q => by omega) (fun q => ?_) (fun q => ?_) (fun q => ⟨v5, v6⟩) (fun q => by omega) ?_
  · rw [o 185 _ (by omega) (by omega), hJ _ _ (by decide)]
    unfold pr
    rw [if_neg q]
    exact (sc_at h (s := n - 1) ⟨by omega, by omega⟩).1.1.1.symm
  · unfold pr
    rw [if_pos q]
  · refine s_begassign (N := N) (P := pc I (pr I n)) (R := pc I fig) (w := wayf I (pr I n) fig) (by decide) (by omega) (by omega) (by omega) sz (fun k hk c c1 c2 => by rw [pm_cong oI]; exact pm_pc h rp (by omega) ⟨c1, c2⟩) (fun k hk c c1 c2 => by rw [pm_cong oI]; exact pm_pc h (by omega) (by omega) ⟨c1, c2⟩) (fun i j a b c c1 c2 => ?_) (fun i j a b => rfl) (fun L hL l1 l2 l3 => ?_)
    · have x := pc_rg h rp (i := i) (c := c) (by omega) ⟨c1, c2⟩
      have y := pc_rg h (f := fig) (by omega) (i := j) (c := c) (by omega) ⟨c1, c2⟩
      omega
    · have fL : ∀ a k, ¬ dScr a k → L a k = J1 a k := fun a k d => by
        unfold dScr at d
        exact hL a k (by omega) (by omega) (by omega)
      have g180 : ∀ i : Int, 0 ≤ i → i < I 5 1 → L 180 i = gl I (pr I n) fig (I 5 1) i := fun i i1 i2 => by
        obtain ⟨k, rfl⟩ : ∃ k : Nat, i = k := ⟨i.toNat, by omega⟩
        rw [(l3 k (by omega)).1]
        unfold gl
        rw [eN, Int.toNat_natCast, Int.toNat_natCast]
      have l158 : L 158 8 = I 5 1 := by
        rw [fL _ _ (by unfold dScr; omega), o _ _ (by omega) (by omega), hJ _ _ (by decide)]
        exact h.1.1
      intro X hX
      have key : ∀ (m : Nat) (f : Int) (M : sk_S), f + m = I 5 1 → 0 ≤ f → (∀ a k, ¬ (a = 189 ∧ 10 * n ≤ k) → M a k = L a k) → (∀ g : Int, 0 ≤ g → g < f → M 189 (10 * n + g) = gl I (pr I n) fig (I 5 1) (sa I n g)) → X f M := by
        intro m
        induction m with
        | zero =>
          intro f M e1 e2 e3 e4
          obtain rfl : f = I 5 1 := by omega
          refine hX _ _ (bT (by rw [e3 _ _ (by omega), l158]; omega) (hQ M (fun a k d1 d2 d3 d4 => ?_) ?_ ?_ ?_ ?_ ?_ e4))
          · rw [e3 a k d4, fL a k d1, o a k d3 d2]
          · rw [e3 _ _ (by omega), fL _ _ (by unfold dScr; omega)]; exact v5
          · rw [e3 _ _ (by omega), fL _ _ (by unfold dScr; omega)]; exact v6
          · rw [e3 _ _ (by omega), fL _ _ (by unfold dScr; omega)]; exact v7
          · rw [e3 _ _ (by omega), fL _ _ (by unfold dScr; omega)]; exact v8
          · rw [e3 _ _ (by omega), fL _ _ (by unfold dScr; omega)]; exact v41
        | succ m ih =>
          intro f M e1 e2 e3 e4
          have sr := sa_all h (s := n) (f := f) (by omega) ⟨e2, by omega⟩
          have put : ∀ r : Int, r = sa I n f → ((0 : Int) ≤ r ∧ (r : Int) < 10) ∧ ((0 : Int) ≤ (10 * n) + f ∧ ((10 * n) + f : Int) < 120) ∧ rI (f + 1) ∧ ∀ v6_171, v6_171 = f + 1 → X v6_171 (up M 189 ((10 * n) + f) (M 180 r)) := fun r hr => by
            subst hr
            refine ⟨by omega, by omega, by omega, nm (ih (f + 1) _ (by omega) (by omega) (fun a k q => by rw [up_o (by omega)]; exact e3 a k q) (fun g g1 g2 => ?_))⟩
            by_cases c : g = f
            · subst c
              rw [up_h, e3 _ _ (by omega)]
              exact g180 _ sr.1 sr.2
            · rw [up_o (by omega)]
              exact e4 g g1 (by omega)
          refine hX _ _ (bF (by rw [e3 _ _ (by omega), l158]; omega) ⟨fun c => ⟨by omega, ?_⟩, fun c => ?_⟩)
          · refine put _ ?_
            rw [e3 _ _ (by omega), fL _ _ (by unfold dScr; omega), o _ _ (by omega) (by omega), hJ _ _ (by decide)]
            unfold sa
            rw [if_neg c]
          · refine put _ ?_
            unfold sa
            rw [if_pos c]
      exact key (I 5 1).toNat 0 L (by omega) (by omega) (fun _ _ _ => rfl) (fun g g1 g2 => by omega)
theorem s_Mo_scene {fig t hold cue : Int} {Q : Int → sk_S → Prop} {J : sk_S} (hf : 0 ≤ fig ∧ fig < J 158 9) (hf8 : fig < 8) (h1 : ((1 ≤ t ∧ t ≤ 30) ∧ (0 ≤ hold ∧ hold ≤ 100) ∧ (0 ≤ cue ∧ cue ≤ 255)) → ((J 162 fig = J 158 8 → ¬ J 158 41 = 12 → (0 ≤ J 158 41 ∧ J 158 41 < 12) ∧ M_Mo_looksAt (J 158 41) (fun I_130 => L_Mo_scene_136 (J 158 41) Q 0 I_130) (up (up (up (up (up J 185 (J 158 41) fig) 186 (J 158 41) t) 187 (J 158 41) hold) 188 (J 158 41) cue) 158 41 (J 158 41 + 1))) ∧ (J 162 fig = J 158 8 → J 158 41 = 12 → Q (-4) J) ∧ (¬ J 162 fig = J 158 8 → Q (-3) J))) (h0 : ¬ ((1 ≤ t ∧ t ≤ 30) ∧ (0 ≤ hold ∧ hold ≤ 100) ∧ (0 ≤ cue ∧ cue ≤ 255)) → Q (-2) J) : M_Mo_scene fig t hold cue Q J := by
  refine s_isFigure (fun _ => n1 (s_isIn (fun q1 => z1 (s_isIn (fun q2 => z1 (s_isIn (fun q3 => n1 ?_) (fun q => n0 (h0 fun c => q c.2.2)))) (fun q => z0 (h0 fun c => q c.2.1)))) (fun q => z0 (h0 fun c => q c.1)))) (fun q => absurd hf q)
  obtain ⟨g1, g2, g3⟩ := h1 ⟨q1, q2, q3⟩
  refine ⟨by omega, fun e => ⟨fun c => nm ?_, g2 e⟩, g3⟩
  obtain ⟨r, g⟩ := g1 e c
  have w : (up (up (up (up J 185 (J 158 41) fig) 186 (J 158 41) t) 187 (J 158 41) hold) 188 (J 158 41) cue) 158 41 = J 158 41 := by
    rw [up_o (by omega), up_o (by omega), up_o (by omega), up_o (by omega)]
  rw [w]
  exact ⟨r, r, r, r, by omega, g⟩
theorem step_scene {I : sk_S} (h : Inv I) (fig t hold cue : Int) {Q : Int → sk_S → Prop} (hQ : ∀ r I1, Two (M_Mo_scene fig t hold cue) r I1 → Q r I1) : M_Sky_scene fig t hold cue Q I := by
  obtain ⟨h1, h2, h3, h4, h5, h6, h7⟩ := id h
  have hl := fly_top h
  have hp := pic_top h
  have ht := show_top h
  have es := h6.1
  have e9 := h2.1
  have e8 := h1.1
  by_cases qf : 0 ≤ fig ∧ fig < I 4 3
  · refine s_Gallery_has (fun _ => n1 ?_) (fun p => absurd qf p)
    have ez : I 162 fig = I (pa fig) 1 := by
      have := sz_pa h (f := fig) (by omega)
      rwa [if_pos qf.1] at this
    have bad : ¬ ((1 ≤ t ∧ t ≤ 30) ∧ (0 ≤ hold ∧ hold ≤ 100) ∧ (0 ≤ cue ∧ cue ≤ 255)) → Q (-2) I := fun q => hQ _ _ fun K hK =>
      s_Mo_scene (by omega) (by omega) (fun c => absurd c q) (fun _ => Ok.use hK ⟨rfl, h⟩)
    by_cases qt : 1 ≤ t ∧ t ≤ 30
    · refine s_isWithin (fun _ => z1 ?_) (fun p => absurd qt p)
      by_cases qh : 0 ≤ hold ∧ hold ≤ 100
      · refine s_isWithin (fun _ => z1 (z1 ?_)) (fun p => absurd qh p)
        by_cases qc : 0 ≤ cue ∧ cue ≤ 255
        · refine s_isWithin (fun _ => n1 (s_Gallery_at (by omega) (s_flyers ?_))) (fun p => absurd qc p)
          by_cases z : I (pa fig) 1 = I 5 1
          · refine bT z ?_
            by_cases c : I 54 3 < 12
            · refine bT c (s_Show_at (by omega) ?_)
              generalize hn : I 54 3 = n at c
              have k8n := k8 (kd_scn (i := n) (by omega))
              generalize hI1 : up (up (up I (65 + 7 * n) 3 hold) (65 + 7 * n) 4 cue) (65 + 7 * n) 2 fig = I1
              have o1 : ∀ a k, a ≠ 65 + 7 * n → I1 a k = I a k := fun a k q => by
                rw [← hI1, up_o (by omega), up_o (by omega), up_o (by omega)]
              have i2 : I1 (65 + 7 * n) 2 = fig := by rw [← hI1, up_h]
              have i3 : I1 (65 + 7 * n) 3 = hold := by rw [← hI1, up_o (by omega), up_o (by omega), up_h]
              have i4 : I1 (65 + 7 * n) 4 = cue := by rw [← hI1, up_o (by omega), up_h]
              refine s_lastFigure (n := n) (by rw [o1 _ _ (by omega)]; exact hn) (by omega) ?_
              have ep : (if n = 0 then -1 else I1 (65 + 7 * (n - 1)) 2) = pr I n := by
                unfold pr
                rw [o1 _ _ (by omega)]
              rw [ep]
              have rp := pr_rg h (s := n) (by omega)
              have zp := pr_size h (s := n) (by omega)
              refine s_Gallery_at (by omega) (s_Gallery_at (by omega) ?_)
              refine s_leadI h (fun a k q => o1 a k (by omega)) (by rw [show 65 + 7 * n + 1 = 65 + 7 * n + 1 from rfl]; exact k8n.1) (by omega) rp (by omega) zp z (fun r L hL l2 lp => ?_)
              refine s_Gallery_at (by omega) (s_Gallery_at (x := -1) (by omega) ?_)
              refine s_leadI h (fun a k q => (hL a k (by omega) (by omega) (by omega) (by omega) (by omega)).trans (o1 a k (by omega))) k8n.2 (by omega) (by omega) (T := -1) (by omega) z rfl (fun r M hM m2 mp => ?_)
              have hnM : M 54 3 = n := by
                rw [hM _ _ (by omega) (by omega) (by omega) (by omega) (by omega), hL _ _ (by omega) (by omega) (by omega) (by omega) (by omega), o1 _ _ (by omega)]
                exact hn
              refine ⟨by omega, ?_⟩
              rw [hnM, up_h]
              refine ⟨by omega, ?_⟩
              rw [show n + 1 - 1 = n by omega]
              generalize hJJ : up M 54 3 (n + 1) = J
              have fJ : ∀ a k, a ≠ 39 → a ≠ 41 → a ≠ 43 → ¬ (a = 54 ∧ k = 3) → ¬ (65 + 7 * n ≤ a ∧ a < 72 + 7 * n) → J a k = I a k := fun a k q1 q2 q3 q4 q5 => by
                rw [← hJJ, up_o q4, hM a k q1 q2 q3 (by omega) (by omega), hL a k q1 q2 q3 (by omega) (by omega), o1 a k (by omega)]
              have jM : ∀ a k, ¬ (a = 54 ∧ k = 3) → J a k = M a k := fun a k q => by rw [← hJJ, up_o q]
              have jn : J 54 3 = n + 1 := by rw [← hJJ, up_h]
              have f158 : ∀ a k, 158 ≤ a → J a k = I a k := fun a k q => fJ a k (by omega) (by omega) (by omega) (by omega) (by omega)
              refine hQ _ _ fun KK hKK => ?_
              have b41 : J 158 41 = n := by rw [f158 _ _ (by decide), ← es]; exact hn
              refine s_Mo_scene (by rw [f158 _ _ (by decide)]; omega) (by omega) (fun _ => ⟨fun _ _ => ⟨by omega, ?_⟩, fun _ q => by omega, fun q => ?_⟩) (fun q => absurd ⟨qt, qh, qc⟩ q)
              · rw [b41]
                refine s_sceneM h f158 hn c qf z (fun K hK x5 x6 x7 x8 x41 x9 => ?_)
                have eK : ∀ a k, a ≠ 39 → a ≠ 41 → a ≠ 43 → ¬ (a = 54 ∧ k = 3) → ¬ (65 + 7 * n ≤ a ∧ a < 72 + 7 * n) → ¬ dScr a k → ¬ (185 ≤ a ∧ a ≤ 188 ∧ k = n) → ¬ (a = 158 ∧ k = 41) → ¬ (a = 189 ∧ 10 * n ≤ k) → K a k = I a k := fun a k q1 q2 q3 q4 q5 q6 q7 q8 q9 => by
                  rw [hK a k q6 q7 q8 q9, fJ a k q1 q2 q3 q4 q5]
                have kM : ∀ a k, a < 158 → ¬ (a = 54 ∧ k = 3) → K a k = M a k := fun a k q q2 => by
                  rw [hK a k (by unfold dScr; omega) (by omega) (by omega) (by omega), jM a k q2]
                have kL : ∀ a k, a < 158 → a ≠ 39 → a ≠ 41 → a ≠ 43 → ¬ (a = 54 ∧ k = 3) → a ≠ 69 + 7 * n → a ≠ 71 + 7 * n → K a k = L a k := fun a k q1 q2 q3 q4 q5 q6 q7 => by
                  rw [kM a k q1 q5, hM a k q2 q3 q4 (by omega) (by omega)]
                refine hKK K ⟨h1.cong fun a k d => ?_, h2.cong fun a k d => ?_, h3.cong fun a k d => ?_, h4.cong fun a k d => ?_, h5.cong fun a k d => ?_, iShow_more h hn c qf z qt qh qc (fun a k d => ?_) ?_ x41 ?_ ?_ ?_ ?_ ?_ ?_ ?_ x5 x6 x7 x8 x9, h7.cong fun a k d => ?_⟩
                · unfold dFly at d; exact eK a k (by omega) (by omega) (by omega) (by omega) (by omega) (by unfold dScr; omega) (by omega) (by omega) (by omega)
                · unfold dFig at d; exact eK a k (by omega) (by omega) (by omega) (by omega) (by omega) (by unfold dScr; omega) (by omega) (by omega) (by omega)
                · unfold dAir at d; exact eK a k (by omega) (by omega) (by omega) (by omega) (by omega) (by unfold dScr; omega) (by omega) (by omega) (by omega)
                · unfold dTape at d; exact eK a k (by omega) (by omega) (by omega) (by omega) (by omega) (by unfold dScr; omega) (by omega) (by omega) (by omega)
                · unfold dPass at d; exact eK a k (by omega) (by omega) (by omega) (by omega) (by omega) (by unfold dScr; omega) (by omega) (by omega) (by omega)
                · exact eK a k (by omega) (by omega) (by omega) (by omega) (by omega) (by unfold dScr; omega) (by omega) (by omega) (by omega)
                · rw [hK _ _ (by unfold dScr; omega) (by omega) (by omega) (by omega)]; exact jn
                · rw [kL _ _ (by omega) (by omega) (by omega) (by omega) (by omega) (by omega) (by omega), hL _ _ (by omega) (by omega) (by omega) (by omega) (by omega)]; exact i2
                · rw [kL _ _ (by omega) (by omega) (by omega) (by omega) (by omega) (by omega) (by omega), hL _ _ (by omega) (by omega) (by omega) (by omega) (by omega)]; exact i3
                · rw [kL _ _ (by omega) (by omega) (by omega) (by omega) (by omega) (by omega) (by omega), hL _ _ (by omega) (by omega) (by omega) (by omega) (by omega)]; exact i4
                · rw [kL _ _ (by omega) (by omega) (by omega) (by omega) (by omega) (by omega) (by omega), show 66 + 7 * n = 65 + 7 * n + 1 by omega]; exact l2
                · rw [kM _ _ (by omega) (by omega), show 69 + 7 * n = 65 + 7 * n + 4 by omega]; exact m2
                · rw [show 66 + 7 * n = 65 + 7 * n + 1 by omega]
                  refine lp.cong ?_ (fun k => ?_)
                  · exact kL _ _ (by omega) (by omega) (by omega) (by omega) (by omega) (by omega) (by omega)
                  · exact kL _ _ (by omega) (by omega) (by omega) (by omega) (by omega) (by omega) (by omega)
                · rw [show 69 + 7 * n = 65 + 7 * n + 4 by omega]
                  exact mp.cong (kM _ _ (by omega) (by omega)) (fun k => kM _ _ (by omega) (by omega))
                · unfold dMark at d; exact eK a k (by omega) (by omega) (by omega) (by omega) (by omega) (by unfold dScr; omega) (by omega) (by omega) (by omega)
              · exfalso
                rw [f158 _ _ (by decide), f158 _ _ (by decide)] at q
                omega
            · refine bF c (hQ _ _ fun K hK => ?_)
              exact s_Mo_scene (by omega) (by omega) (fun _ => ⟨fun _ q => by omega, fun _ _ => Ok.use hK ⟨rfl, h⟩, fun q => by omega⟩) (fun q => absurd ⟨qt, qh, qc⟩ q)
          · refine bF z (hQ _ _ fun K hK => ?_)
            exact s_Mo_scene (by omega) (by omega) (fun _ => ⟨fun q => by omega, fun q => by omega, fun _ => Ok.use hK ⟨rfl, h⟩⟩) (fun q => absurd ⟨qt, qh, qc⟩ q)
        · exact s_isWithin (fun p => absurd p qc) (fun _ => n0 (bad fun q => qc q.2.2))
      · exact s_isWithin (fun p => absurd p qh) (fun _ => z0 (z0 (bad fun q => qh q.2.1)))
    · exact s_isWithin (fun p => absurd p qt) (fun _ => z0 (z0 (bad fun q => qt q.1)))
  · refine s_Gallery_has (fun p => absurd p qf) (fun _ => n0 (hQ _ _ fun K hK => ?_))
    exact s_isFigure (fun p => absurd (by omega) qf) (fun _ => n0 (Ok.use hK ⟨rfl, h⟩))
