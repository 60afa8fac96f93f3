/-! ===== the reference looks at a pass of the show ===== -/
theorem s_begassign {sl F T t : Int} {N : Nat} {P R : Int → Int → Int} {w : Nat → Nat → Int} {Q : Int → sk_S → Prop} {I : sk_S} (hsl : 0 ≤ sl ∧ sl < 2) (hF : -1 ≤ F ∧ F < 8) (hT : -1 ≤ T ∧ T < 8) (hn : N < 11) (en : (if 0 ≤ T then I 162 T else I 158 8) = N) (hP : ∀ k : Nat, k < N → ∀ c : Int, 0 ≤ c → c < 3 → pm I F k c = P k c) (hR : ∀ k : Nat, k < N → ∀ c : Int, 0 ≤ c → c < 3 → pm I T k c = R k c) (hr : ∀ i j : Nat, i < N → j < N → ∀ c : Int, 0 ≤ c → c < 3 → -400 ≤ P i c - R j c ∧ P i c - R j c ≤ 400) (hw : ∀ i j : Nat, i < N → j < N → (P i 0 - R j 0) * (P i 0 - R j 0) + (P i 1 - R j 1) * (P i 1 - R j 1) + (P i 2 - R j 2) * (P i 2 - R j 2) = w i j)
    (h : ∀ J : sk_S, (∀ a k, ¬ (168 ≤ a ∧ a ≤ 174 ∧ 10 * sl ≤ k ∧ k < 10 * sl + N) → ¬ ((a = 175 ∨ a = 176) ∧ k = sl) → ¬ (178 ≤ a ∧ a ≤ 183) → J a k = I a k) → J 175 sl = t → J 176 sl = N → (∀ k : Nat, k < N → J 180 k = (goalf w N k : Nat) ∧ (∀ c : Int, 0 ≤ c → c < 3 → J (168 + c) (10 * sl + k) = P k c ∧ J (171 + c) (10 * sl + k) = R (goalf w N k : Nat) c) ∧ J 174 (10 * sl + k) = 0) → Q (needf w N N 0) J) : M_Mo_begins sl F T t (fun I_97 => M_Mo_assigns sl Q I_97) I := by
  refine s_begins hsl hF hT hn en (fun L hL l1 l2 l3 => ?_)
  have lc : ∀ k : Nat, k < N → ∀ c : Int, 0 ≤ c → c < 3 → L (168 + c) (10 * sl + k) = P k c ∧ L (171 + c) (10 * sl + k) = R k c := fun k hk c c1 c2 => by
    rw [((l3 k hk).1 c c1 c2).1, ((l3 k hk).1 c c1 c2).2]
    exact ⟨hP k hk c c1 c2, hR k hk c c1 c2⟩
  have lw : ∀ i j : Nat, i < N → j < N → wM L sl i j = w i j := fun i j a b => by
    have d0 := (lc i a 0 (by decide) (by decide)).1
    have d1 := (lc i a 1 (by decide) (by decide)).1
    have d2 := (lc i a 2 (by decide) (by decide)).1
    have e0 := (lc j b 0 (by decide) (by decide)).2
    have e1 := (lc j b 1 (by decide) (by decide)).2
    have e2 := (lc j b 2 (by decide) (by decide)).2
    rw [show (168 : Int) + 0 = 168 from rfl] at d0
    rw [show (168 : Int) + 1 = 169 from rfl] at d1
    rw [show (168 : Int) + 2 = 170 from rfl] at d2
    rw [show (171 : Int) + 0 = 171 from rfl] at e0
    rw [show (171 : Int) + 1 = 172 from rfl] at e1
    rw [show (171 : Int) + 2 = 173 from rfl] at e2
    unfold wM
    rw [d0, d1, d2, e0, e1, e2]
    exact hw i j a b
  have ww : Wb w N := fun i j a b => by
    rw [← lw i j a b]
    refine wM_rg (fun c c1 c2 => ?_)
    rw [(lc i a c c1 c2).1, (lc j b c c1 c2).2]
    exact hr i j a b c c1 c2
  refine s_assigns hsl hn l2 (fun i j a b c c1 c2 => ?_) lw (fun J hJ j1 => h J (fun a k q1 q2 q3 => ?_) ?_ ?_ (fun k hk => ⟨(j1 k hk).1, fun c c1 c2 => ⟨?_, ?_⟩, ?_⟩))
  · rw [(lc i a c c1 c2).1, (lc j b c c1 c2).2]
    exact hr i j a b c c1 c2
  · rw [hJ a k q3 (by omega)]
    exact hL a k q1 q2
  · rw [hJ _ _ (by omega) (by omega)]; exact l1
  · rw [hJ _ _ (by omega) (by omega)]; exact l2
  · rw [hJ _ _ (by omega) (by omega)]; exact (lc k hk c c1 c2).1
  · rw [(j1 k hk).2 c c1 c2]
    exact (lc _ (goalf_lt hn ww hk) c c1 c2).2
  · rw [hJ _ _ (by omega) (by omega)]; exact (l3 k hk).2
theorem s_looksAt {s F T t : Int} {Q : sk_S → Prop} {I : sk_S} (hs : 0 ≤ s ∧ s ≤ 12) (hA : s = I 158 41 → 0 < s) (hB : ¬ s = I 158 41 → s < 12) (eF : ¬ s = 0 → I 185 (s - 1) = F) (eF0 : s = 0 → F = -1) (eT : ¬ s = I 158 41 → I 185 s = T ∧ I 186 s = t) (eT1 : s = I 158 41 → T = -1 ∧ I 186 (s - 1) = t) (h : M_Mo_begins 1 F T t (fun I_67 => M_Mo_assigns 1 (fun r_72 I_72 => Q I_72) I_67) I) : M_Mo_looksAt s Q I := by
  have j32 : ∀ z : Int, (s = I 158 41 → z ≠ 0) → (¬ s = I 158 41 → z = 0) → J_Mo_looksAt_32 s z 1 F Q I := fun z z1' z0' => by
    by_cases c : s = I 158 41
    · have hz := z1' c
      obtain ⟨q1, q2⟩ := eT1 c
      have := hA c
      refine bF hz (bF hz ⟨by omega, ?_⟩)
      rw [q2, ← q1]
      exact h
    · have hz := z0' c
      obtain ⟨q1, q2⟩ := eT c
      have := hB c
      refine bT hz ⟨by omega, bT hz ⟨by omega, ?_⟩⟩
      rw [q1, q2]
      exact h
  have j13 : ∀ z : Int, (s = I 158 41 → z ≠ 0) → (¬ s = I 158 41 → z = 0) → J_Mo_looksAt_13 s z Q I := fun z z1' z0' => by
    refine ⟨fun c => ⟨by omega, ?_⟩, fun c => ?_⟩
    · rw [eF c]; exact j32 z z1' z0'
    · have := j32 z z1' z0'
      rwa [eF0 c] at this
  exact ⟨fun c => j13 0 (fun q => absurd q c) (fun _ => rfl), fun c => j13 1 (fun _ => by decide) (fun q => absurd c q)⟩
/-- the cells of the reference that a look writes -/
def dScr (a k : Int) : Prop := (168 ≤ a ∧ a ≤ 174 ∧ 10 ≤ k) ∨ ((a = 175 ∨ a = 176) ∧ k = 1) ∨ (178 ≤ a ∧ a ≤ 183)
theorem Inv.scr {I J : sk_S} (h : Inv I) (e : ∀ a k, ¬ dScr a k → J a k = I a k) : Inv J := by
  have hp := pic_top h
  refine h.cong (fun a k d => e a k ?_)
  unfold dAll dFly dFig dAir dTape dPass dShow dMark at d
  unfold dScr
  omega
/-- the figure of a scene, behind the last one the pads; its ticks; the class's pass -/
def nx (I : sk_S) (s : Int) : Int := if s = I 54 3 then -1 else I (65 + 7 * s) 2
def tk (I : sk_S) (s : Int) : Int := if s = I 54 3 then I 186 (s - 1) else I 186 s
def pS (I : sk_S) (s : Int) : Int := if s = I 54 3 then 69 + 7 * (s - 1) else 66 + 7 * s
theorem nx_rg {I : sk_S} (h : Inv I) {s : Int} (hs : 0 ≤ s ∧ s ≤ I 54 3) : -1 ≤ nx I s ∧ nx I s < I 4 3 := by
  have hp := pic_top h
  unfold nx
  split
  · omega
  · have k := (sc_at h (s := s) ⟨by omega, by omega⟩).1.1
    omega
theorem nx_size {I : sk_S} (h : Inv I) {s : Int} (hs : 0 ≤ s ∧ s ≤ I 54 3) : I (pa (nx I s)) 1 = I 5 1 := by
  unfold nx
  split
  · rfl
  · have k := (sc_at h (s := s) ⟨by omega, by omega⟩).1.1
    rw [pa_f k.2.1]
    exact k.2.2.2
theorem tk_rg {I : sk_S} (h : Inv I) {s : Int} (hs : 0 ≤ s ∧ s ≤ I 54 3) (hn : 0 < I 54 3) : 1 ≤ tk I s ∧ tk I s ≤ 30 := by
  unfold tk
  split
  · exact (sc_at h (s := s - 1) ⟨by omega, by omega⟩).1.2.1.2.2
  · exact (sc_at h (s := s) ⟨by omega, by omega⟩).1.2.1.2.2
theorem pS_ps {I : sk_S} (h : Inv I) {s : Int} (hs : 0 ≤ s ∧ s ≤ I 54 3) (hn : 0 < I 54 3) : kd (pS I s) = 4 ∧ I (pS I s) 2 = tk I s ∧ isPs I (pS I s) (pr I s) (nx I s) (I 5 1) := by
  have ht := show_top h
  unfold pS tk nx
  by_cases c : s = I 54 3
  · simp only [if_pos c]
    have k := sc_at h (s := s - 1) ⟨by omega, by omega⟩
    refine ⟨?_, k.1.2.1.2.1, ?_⟩
    · rw [show 69 + 7 * (s - 1) = 65 + 7 * (s - 1) + 4 by omega]
      exact (k8 (kd_scn (by omega))).2
    · have e : pr I s = I (65 + 7 * (s - 1)) 2 := by unfold pr; rw [if_neg (by omega)]
      rw [e]
      exact k.2.2.1
  · simp only [if_neg c]
    have k := sc_at h (s := s) ⟨by omega, by omega⟩
    refine ⟨?_, k.1.2.1.1, k.2.1⟩
    rw [show 66 + 7 * s = 65 + 7 * s + 1 by omega]
    exact (k8 (kd_scn (by omega))).1
theorem show_look {I : sk_S} (h : Inv I) {s : Int} (hs : 0 ≤ s ∧ s ≤ I 54 3) (hn : 0 < I 54 3) {Q : sk_S → Prop} (hQ : ∀ J : sk_S, (∀ a k, ¬ dScr a k → J a k = I a k) → J 175 1 = tk I s → J 176 1 = I 5 1 → (∀ i : Int, 0 ≤ i → i < I 5 1 → J 180 i = gl I (pr I s) (nx I s) (I 5 1) i ∧ (∀ c : Int, 0 ≤ c → c < 3 → stM J 1 i c = pc I (pr I s) i c ∧ spM J 1 i c = pc I (nx I s) (gl I (pr I s) (nx I s) (I 5 1) i) c - pc I (pr I s) i c) ∧ wtM J 1 i = 0) → Q J) : M_Mo_looksAt s Q I := by
  have ht := show_top h
  have hl := fly_top h
  have hp := pic_top h
  have es := h.2.2.2.2.2.1.1
  have rp := pr_rg h hs
  have rn := nx_rg h hs
  have zp := pr_size h hs
  have zn := nx_size h hs
  obtain ⟨N, eN⟩ : ∃ N : Nat, I 5 1 = N := ⟨(I 5 1).toNat, by omega⟩
  refine s_looksAt (F := pr I s) (T := nx I s) (t := tk I s) (by omega) (fun q => by omega) (fun q => by omega) (fun q => ?_) (fun q => ?_) (fun q => ⟨?_, ?_⟩) (fun q => ⟨?_, ?_⟩) ?_
  · unfold pr
    rw [if_neg q]
    exact (sc_at h (s := s - 1) ⟨by omega, by omega⟩).1.1.1.symm
  · unfold pr
    rw [if_pos q]
  · unfold nx
    rw [if_neg (by omega)]
    exact (sc_at h (s := s) ⟨by omega, by omega⟩).1.1.1.symm
  · unfold tk
    rw [if_neg (by omega)]
  · unfold nx
    rw [if_pos (by omega)]
  · unfold tk
    rw [if_pos (by omega)]
  · refine s_begassign (N := N) (P := pc I (pr I s)) (R := pc I (nx I s)) (w := wayf I (pr I s) (nx I s)) (by decide) (by omega) (by omega) (by omega) (by rw [sz_pa h rn, zn]; exact eN) (fun k hk c c1 c2 => pm_pc h rp (by omega) ⟨c1, c2⟩) (fun k hk c c1 c2 => pm_pc h rn (by omega) ⟨c1, c2⟩) (fun i j a b c c1 c2 => ?_) (fun i j a b => rfl) (fun J hJ j1 j2 j3 => ?_)
    · have x := pc_rg h rp (i := i) (c := c) (by omega) ⟨c1, c2⟩
      have y := pc_rg h rn (i := j) (c := c) (by omega) ⟨c1, c2⟩
      omega
    · refine hQ J (fun a k d => hJ a k ?_ ?_ ?_) j1 (by rw [eN]; exact j2) (fun i i1 i2 => ?_)
      · unfold dScr at d; omega
      · unfold dScr at d; omega
      · unfold dScr at d; omega
      · obtain ⟨k, rfl⟩ : ∃ k : Nat, i = k := ⟨i.toNat, by omega⟩
        obtain ⟨g1, g2, g3⟩ := j3 k (by omega)
        have eg : gl I (pr I s) (nx I s) (I 5 1) k = (goalf (wayf I (pr I s) (nx I s)) N k : Nat) := by
          unfold gl
          rw [eN, Int.toNat_natCast, Int.toNat_natCast]
        rw [eg]
        refine ⟨g1, fun c c1 c2 => ?_, g3⟩
        unfold stM spM
        rw [(g2 c c1 c2).1, (g2 c c1 c2).2]
        exact ⟨rfl, rfl⟩
/-! ===== lands ===== -/
theorem step_lands {I : sk_S} (h : Inv I) (x : Int) {Q : Int → sk_S → Prop} (hQ : ∀ r I1, Two (M_Mo_lands x) r I1 → Q r I1) : M_Sky_lands x Q I := by
  have ht := show_top h
  have hl := fly_top h
  have e8 := h.1.1
  have es := h.2.2.2.2.2.1.1
  refine s_isFlyer (fun q => n1 ?_) (fun q => n0 (hQ _ _ fun K hK => ?_))
  · refine ⟨fun c => hQ _ _ fun K hK => ?_, fun c => ⟨by omega, s_Show_at (by omega) ⟨by omega, s_Show_place h q ⟨by omega, by omega⟩ ?_⟩⟩⟩
    · exact s_Mo_isFlyer (fun _ => n1 (nF (by omega) (Ok.use hK ⟨rfl, h⟩))) (fun p => absurd (by omega) p)
    · have r := sa_all h (s := I 54 3) ⟨by omega, by omega⟩ q
      obtain ⟨k1, k2, k3⟩ := pS_ps h (s := I 54 3) ⟨by omega, by omega⟩ (by omega)
      have ep : pS I (I 54 3) = 65 + 7 * (I 54 3 - 1) + 4 := by unfold pS; rw [if_pos rfl]; omega
      rw [show I 54 3 - 1 + 1 = I 54 3 by omega]
      refine s_Pass_goal (by rw [← ep]; exact k1) (by omega) (hQ _ _ fun K hK => ?_)
      rw [← ep, (k3.2 _ r.1 r.2).1.1] at hK
      refine s_Mo_isFlyer (fun _ => n1 (nT (by omega) ?_)) (fun p => absurd (by omega) p)
      rw [← es]
      refine show_look h ⟨by omega, by omega⟩ (by omega) (fun J hJ j1 j2 j3 => ?_)
      have f1 : J 158 41 = I 54 3 := by rw [hJ _ _ (by unfold dScr; omega)]; exact es.symm
      have f2 : J 189 (10 * (I 54 3 - 1) + x) = sa I (I 54 3) x := by
        rw [hJ _ _ (by unfold dScr; omega)]
        unfold sa
        rw [if_neg (by omega)]
      refine nT (by omega) ⟨by rw [f1]; omega, ?_⟩
      rw [f1, f2]
      refine ⟨by omega, ?_⟩
      rw [(j3 _ r.1 r.2).1]
      exact hK _ (h.scr hJ)
  · exact s_Mo_isFlyer (fun p => absurd (by omega) q) (fun _ => n0 (Ok.use hK ⟨rfl, h⟩))
