/-! ===== unclean ===== -/
def clC (I : sk_S) (p : Int) : Prop := cleanP (I p 2) (I 36 0) (stC I p) (spC I p) (wtC I p) (I 36 1) (I 36 2) (I 36 3) (I 5 1)
theorem ps_at {I : sk_S} (h : Inv I) {p F T i : Int} (hF : -1 ≤ F ∧ F < I 4 3) (hT : -1 ≤ T ∧ T < I 4 3) (zF : I (pa F) 1 = I 5 1) (zT : I (pa T) 1 = I 5 1) (k : isPs I p F T (I 5 1)) (hi : 0 ≤ i ∧ i < I 5 1) : inW (stC I p) (spC I p) i ∧ wtC I p i = 0 ∧ ∀ c : Int, 0 ≤ c → c < 3 → stC I p i c = pc I F i c ∧ spC I p i c = pc I T (gl I F T (I 5 1) i) c - pc I F i c := by
  obtain ⟨g1, g2, g3⟩ := k.2 i hi.1 hi.2
  refine ⟨fun c c1 c2 => ?_, g2, g3⟩
  have e1 : stC I p i c = pc I F i c := (g3 c c1 c2).1
  have e2 : spC I p i c = pc I T (gl I F T (I 5 1) i) c - pc I F i c := (g3 c c1 c2).2
  have x := pc_rg h hF (i := i) (c := c) (by omega) ⟨c1, c2⟩
  have y := pc_rg h hT (i := gl I F T (I 5 1) i) (c := c) (by omega) ⟨c1, c2⟩
  rw [e1, e2]
  omega
theorem s_showClean {I : sk_S} (h : Inv I) {s p : Int} (e : p = pS I s) (hs : 0 ≤ s ∧ s ≤ I 54 3) (hn : 0 < I 54 3) {Q : Int → sk_S → Prop} (h1 : clC I (pS I s) → Q 1 I) (h0 : ¬ clC I (pS I s) → Q 0 I) : M_Pass_isClean p Q I := by
  subst e
  have hl := fly_top h
  obtain ⟨k1, k2, k3⟩ := pS_ps h hs hn
  have tr := tk_rg h hs hn
  have at' : ∀ i : Int, 0 ≤ i → i < I 5 1 → _ := fun i i1 i2 => ps_at h (pr_rg h hs) (nx_rg h hs) (pr_size h hs) (nx_size h hs) k3 ⟨i1, i2⟩
  exact s_Pass_isClean k1 k3.1 hl (fun _ => by omega) h.2.2.1 (fun i i1 i2 => by have := (at' i i1 i2).2.1; omega) (fun i i1 i2 => (at' i i1 i2).1) h1 h0
theorem mo_look {I : sk_S} (h : Inv I) {s : Int} (hs : 0 ≤ s ∧ s ≤ I 54 3) (hn : 0 < I 54 3) {K : Int → sk_S → Prop} (h1 : clC I (pS I s) → ∀ J : sk_S, (∀ a k, ¬ dScr a k → J a k = I a k) → K 1 J) (h0 : ¬ clC I (pS I s) → ∀ J : sk_S, (∀ a k, ¬ dScr a k → J a k = I a k) → K 0 J) : M_Mo_looksAt s (fun I_21 => M_Mo_isClean 1 K I_21) I := by
  have hl := fly_top h
  obtain ⟨k1, k2, k3⟩ := pS_ps h hs hn
  have tr := tk_rg h hs hn
  have at' : ∀ i : Int, 0 ≤ i → i < I 5 1 → _ := fun i i1 i2 => ps_at h (pr_rg h hs) (nx_rg h hs) (pr_size h hs) (nx_size h hs) k3 ⟨i1, i2⟩
  refine show_look h hs hn (fun J hJ j1 j2 j3 => ?_)
  have hJI := h.scr hJ
  have f : ∀ a k, a < 168 → J a k = I a k := fun a k q => hJ a k (by unfold dScr; omega)
  have eq : ∀ i : Int, 0 ≤ i → i < I 5 1 → (∀ c : Int, 0 ≤ c → c < 3 → stC I (pS I s) i c = stM J 1 i c ∧ spC I (pS I s) i c = spM J 1 i c) ∧ wtC I (pS I s) i = wtM J 1 i := fun i i1 i2 => by
    obtain ⟨_, g1, g2⟩ := at' i i1 i2
    obtain ⟨_, m1, m2⟩ := j3 i i1 i2
    refine ⟨fun c c1 c2 => ?_, by rw [g1, m2]⟩
    rw [(g2 c c1 c2).1, (g2 c c1 c2).2, (m1 c c1 c2).1, (m1 c c1 c2).2]
    exact ⟨rfl, rfl⟩
  have cg : clC I (pS I s) ↔ cleanP (tk I s) (J 36 0) (stM J 1) (spM J 1) (wtM J 1) (J 36 1) (J 36 2) (J 36 3) (I 5 1) := by
    unfold clC
    rw [cleanP_cong eq, k2, f 36 0 (by decide), f 36 1 (by decide), f 36 2 (by decide), f 36 3 (by decide)]
  rw [cg] at h1 h0
  refine s_Mo_isClean (T := tk I s) (n := I 5 1) (by decide) j2 hl (fun _ => j1) (fun _ => tr) hJI.2.2.1 (fun i i1 i2 => ?_) (fun i i1 i2 => ?_) (fun q => h1 q J hJ) (fun q => h0 q J hJ)
  · have := (j3 i i1 i2).2.2
    omega
  · intro c c1 c2
    obtain ⟨x1, x2, _⟩ := at' i i1 i2
    have := x1 c c1 c2
    rw [((eq i i1 i2).1 c c1 c2).1, ((eq i i1 i2).1 c c1 c2).2] at this
    exact this
theorem clC_cong {I J : sk_S} (f : ∀ a k, a < 168 → J a k = I a k) {p : Int} (hp : p < 160) : clC J p ↔ clC I p := by
  have e1 : stC J p = stC I p := by
    funext i c
    exact f _ _ (by omega)
  have e2 : spC J p = spC I p := by
    funext i c
    exact f _ _ (by omega)
  have e3 : wtC J p = wtC I p := by
    funext i
    exact f _ _ (by omega)
  unfold clC
  rw [e1, e2, e3, f p 2 (by omega), f 36 0 (by decide), f 36 1 (by decide), f 36 2 (by decide), f 36 3 (by decide), f 5 1 (by decide)]
theorem step_unclean {I : sk_S} (h : Inv I) {Q : Int → sk_S → Prop} (hQ : ∀ r I1, Two M_Mo_unclean r I1 → Q r I1) : M_Sky_unclean Q I := by
  have ht := show_top h
  have es := h.2.2.2.2.2.1.1
  -- how the reference goes through one pass of the show
  have st : ∀ (K : Int → sk_S → Prop) (b s : Int) (J : sk_S), (∀ a k, ¬ dScr a k → J a k = I a k) → 0 ≤ s → s ≤ I 54 3 → 0 < I 54 3 →
      (clC I (pS I s) → ∀ J : sk_S, (∀ a k, ¬ dScr a k → J a k = I a k) → L_Mo_unclean_4 K b (s + 1) J) →
      (¬ clC I (pS I s) → ∀ J : sk_S, (∀ a k, ¬ dScr a k → J a k = I a k) → L_Mo_unclean_4 K (ior b (ishl 1 (if s = I 54 3 then 12 else s))) (s + 1) J) → L_Mo_unclean_4 K b s J := by
    intro K b s J hJ s0 s1 hn k1 k0
    have hJI := h.scr hJ
    have f : ∀ a k, a < 168 → J a k = I a k := fun a k q => hJ a k (by unfold dScr; omega)
    have e41 : J 158 41 = I 54 3 := by rw [f _ _ (by decide)]; exact es.symm
    have e54 : J 54 3 = I 54 3 := f _ _ (by decide)
    have ep : pS J s = pS I s := by unfold pS; rw [e54]
    have hp : pS I s < 160 := by unfold pS; split <;> omega
    intro Y hY
    refine hY _ _ _ (bF (by omega) (bF (by omega) ?_))
    refine mo_look hJI (by omega) (by omega) (fun q L hL => ?_) (fun q L hL => ?_)
    · rw [ep, clC_cong f hp] at q
      refine n1 ⟨by omega, nm ?_⟩
      exact k1 q L (fun a k d => by rw [hL a k d]; exact hJ a k d) Y hY
    · rw [ep, clC_cong f hp] at q
      have hLI : ∀ a k, ¬ dScr a k → L a k = I a k := fun a k d => by rw [hL a k d]; exact hJ a k d
      have l41 : L 158 41 = I 54 3 := by rw [hLI _ _ (by unfold dScr; omega)]; exact es.symm
      have nxt := k0 q L hLI Y hY
      refine n0 ?_
      rw [l41]
      by_cases c : s = I 54 3
      · rw [if_pos c] at nxt
        exact nF c (nm ⟨by omega, nm nxt⟩)
      · rw [if_neg c] at nxt
        exact nT c (nm ⟨by omega, nm nxt⟩)
  have fin : ∀ (K : Int → sk_S → Prop) (b s : Int) (J : sk_S), (∀ J, Inv J → K b J) → (∀ a k, ¬ dScr a k → J a k = I a k) → (I 54 3 < s ∨ I 54 3 ≤ 0) → L_Mo_unclean_4 K b s J := by
    intro K b s J hK hJ q
    have e41 : J 158 41 = I 54 3 := by rw [hJ _ _ (by unfold dScr; omega)]; exact es.symm
    intro Y hY
    refine hY _ _ _ ⟨fun _ => hK _ (h.scr hJ), fun c => bT (by omega) (hK _ (h.scr hJ))⟩
  intro X hX
  have key : ∀ m k : Nat, (m : Int) + k = I 54 3 → ∀ b : Int, (∀ r : Int, (∀ K : Int → sk_S → Prop, (∀ J, Inv J → K r J) → ∀ J : sk_S, (∀ a k, ¬ dScr a k → J a k = I a k) → L_Mo_unclean_4 K b k J) → Q r I) → X b k I := by
    intro m
    induction m with
    | zero =>
      intro k hk b hq
      refine hX _ _ _ (bT (by omega) ?_)
      by_cases c : I 54 3 ≤ 0
      · exact bT c (hq _ fun K hK J hJ => fin K b k J hK hJ (Or.inr c))
      · have ek : (k : Int) = I 54 3 := by omega
        refine bF c ⟨by omega, s_Show_at (by omega) ?_⟩
        have ep : 65 + 7 * (I 54 3 - 1) + 4 = pS I k := by unfold pS; rw [if_pos ek, ek]; omega
        refine s_showClean h ep ⟨by omega, by omega⟩ (by omega) (fun q => n1 ?_) (fun q => n0 (nm ?_))
        · refine hq _ fun K hK J hJ => st K b k J hJ (by omega) (by omega) (by omega) (fun _ L hL => fin K b _ L hK hL (Or.inl (by omega))) (fun p => absurd q p)
        · refine hq _ fun K hK J hJ => st K b k J hJ (by omega) (by omega) (by omega) (fun p => absurd p q) (fun _ L hL => ?_)
          rw [if_pos ek, show ishl 1 12 = 4096 by decide +kernel]
          exact fin K _ _ L hK hL (Or.inl (by omega))
    | succ m ih =>
      intro k hk b hq
      refine hX _ _ _ (bF (by omega) (s_Show_at (by omega) ?_))
      have ep : 65 + 7 * (k : Int) + 1 = pS I k := by unfold pS; rw [if_neg (by omega)]; omega
      refine s_showClean h ep ⟨by omega, by omega⟩ (by omega) (fun q => n1 ⟨by omega, nm ?_⟩) (fun q => n0 (nm ⟨by omega, nm ?_⟩))
      · exact ih (k + 1) (by omega) b (fun r hr => hq r fun K hK J hJ => st K b k J hJ (by omega) (by omega) (by omega) (fun _ L hL => hr K hK L hL) (fun p => absurd q p))
      · refine ih (k + 1) (by omega) _ (fun r hr => hq r fun K hK J hJ => st K b k J hJ (by omega) (by omega) (by omega) (fun p => absurd p q) (fun _ L hL => ?_))
        rw [if_neg (by omega)]
        exact hr K hK L hL
  exact key (I 54 3).toNat 0 (by omega) 0 (fun r hr => hQ r I fun K hK => hr K hK I (fun _ _ _ => rfl))
