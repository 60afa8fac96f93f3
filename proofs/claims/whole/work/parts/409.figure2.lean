/-! ===== the reference's point, figure; the step ===== -/
theorem s_numN {s : Int → Int} {g hh c p : Int} {Q : Int → sk_S → Prop} {K : sk_S → Prop} {I : sk_S} (T : TM s I) (hp : 0 ≤ I 158 16) (hd : ¬ dg hh) (hn : hh ≠ -1) (hc : 163 ≤ c ∧ c ≤ 166) (h80 : 0 ≤ p ∧ p < 80)
    (h1 : (pnr s g hh (I 158 16)).1 = 1 → ∀ J : sk_S, oM p I J → J 158 16 = (pnr s g hh (I 158 16)).2.1 → J c p = (pnr s g hh (I 158 16)).2.2 → (∀ d : Int, d ≠ c → 163 ≤ d → d ≤ 166 → J d p = I d p) → K J)
    (h0 : ¬ (pnr s g hh (I 158 16)).1 = 1 → ∀ J : sk_S, oM p I J → J 158 16 = (pnr s g hh (I 158 16)).2.1 → Q 0 J) :
    M_Mo_number g (fun r_2 I_2 => ((¬ r_2 = 0 → ((0 : Int) ≤ p ∧ (p : Int) < 80) ∧ M_Mo_takes hh (fun r_23 I_23 => ((r_23 = 0 → Q 0 I_23) ∧ (¬ r_23 = 0 → K I_23))) (up I_2 c p (I_2 158 17))) ∧ (r_2 = 0 → Q 0 I_2))) I := by
  have hr := (pdf_rg s (mb s g (I 158 16)) 3 0 0 (I 158 16 + mb s g (I 158 16)) (by omega)).2
  have hm := mb_01 s g (I 158 16)
  have hr' : I 158 16 + mb s g (I 158 16) ≤ (pnd s g (I 158 16)).2.1 := hr
  refine s_Mo_number T hp (fun ok nd J o e1 e2 => ?_) (fun nok J o e1 => ?_)
  · refine n1 ⟨h80, ?_⟩
    have TJ := T.cong (o.m.upp (p := p) hc (v := J 158 17))
    have e3 : up J c p (J 158 17) 158 16 = (pnd s g (I 158 16)).2.1 := by rw [up_o (by omega), e1]
    refine s_takes TJ (by omega) hn (fun e => z1 ?_) (fun e => z0 ?_)
    · rw [e3] at e
      have ep : pnr s g hh (I 158 16) = (1, (pnd s g (I 158 16)).2.1 + 1, if mb s g (I 158 16) = 0 then (pnd s g (I 158 16)).2.2 else -(pnd s g (I 158 16)).2.2) := by
        unfold pnr
        rw [if_pos ⟨ok, e⟩]
      rw [ep] at h1
      refine h1 rfl _ (o.m.upp hc).up16 ?_ ?_ (fun d d1 d2 d3 => ?_)
      · rw [up_h, e3]
      · rw [up_o (by omega), up_h, e2]
      · rw [up_o (by omega), up_o (by omega)]; exact o d p (by omega)
    · rw [e3] at e
      have ep : pnr s g hh (I 158 16) = (0, (pnd s g (I 158 16)).2.1, 0) := by
        unfold pnr
        rw [if_neg (fun q => e q.2)]
      rw [ep] at h0
      exact h0 (fun q => absurd (show (0 : Int) = 1 from q) (by decide)) _ (o.m.upp hc) e3
  · have ep : pnr s g hh (I 158 16) = (0, (pnd s g (I 158 16)).2.1, 0) := by
      unfold pnr
      rw [if_neg (fun q => nok ⟨q.1, by rw [q.2]; exact hd⟩)]
    rw [ep] at h0
    exact n0 (h0 (fun q => absurd (show (0 : Int) = 1 from q) (by decide)) _ o.m e1)
theorem s_Mo_point {s : Int → Int} {p : Int} {Q : Int → sk_S → Prop} {I : sk_S} (T : TM s I) (hp : 0 ≤ I 158 16) (h80 : 0 ≤ p ∧ p < 80)
    (h1 : pOk s (I 158 16) → ∀ J : sk_S, oM p I J → J 158 16 = pAt s (I 158 16) → (∀ c : Int, 0 ≤ c → c < 4 → J (163 + c) p = pVal s (I 158 16) c) → Q 1 J)
    (h0 : ¬ pOk s (I 158 16) → ∀ J : sk_S, oM p I J → J 158 16 = pAt s (I 158 16) → Q 0 J) : M_Mo_point p Q I := by
  have x2 : I 158 16 ≤ (pX s (I 158 16)).2.1 := (pnr_rg s 1 44 _).2
  have y2 : (pX s (I 158 16)).2.1 ≤ (pY s (I 158 16)).2.1 := (pnr_rg s 1 44 _).2
  have z2 : (pY s (I 158 16)).2.1 ≤ (pZ s (I 158 16)).2.1 := (pnr_rg s 0 58 _).2
  refine s_numN (hh := 44) T hp (by decide) (by decide) (by decide) h80 (fun ok J o e1 e2 _ => ?_) (fun nok J o e1 => h0 (fun q => nok q.1) J o (by have nok' : ¬ (pX s (I 158 16)).1 = 1 := nok; rw [e1]; unfold pAt; rw [if_neg nok']; rfl))
  have c1 : (pX s (I 158 16)).1 = 1 := ok
  have e1' : J 158 16 = (pX s (I 158 16)).2.1 := e1
  have TJ := T.cong o
  refine s_numN (hh := 44) TJ (by omega) (by decide) (by decide) (by decide) h80 (fun ok2 L o2 f1 f2 f3 => ?_) (fun nok L o2 f1 => ?_)
  · rw [e1'] at ok2 f1 f2
    have c2 : (pY s (I 158 16)).1 = 1 := ok2
    have f1' : L 158 16 = (pY s (I 158 16)).2.1 := f1
    have TL := TJ.cong o2
    refine s_numN (hh := 58) TL (by omega) (by decide) (by decide) (by decide) h80 (fun ok3 M o3 g1 g2 g3 => ?_) (fun nok M o3 g1 => ?_)
    · rw [f1'] at ok3 g1 g2
      have c3 : (pZ s (I 158 16)).1 = 1 := ok3
      have g1' : M 158 16 = (pZ s (I 158 16)).2.1 := g1
      have TM' := TL.cong o3
      have t := TM'.1
      refine s_sign TM' (by omega) (s_isDigit (fun d => n1 (s_sign TM' (by omega) ⟨h80, ?_, ?_, ?_⟩)) (fun d => n0 ?_))
      · omega
      · have := TM'.lt (k := M 158 16) (by omega) (by omega)
        rw [up_o (by omega)]
        omega
      · rw [g1'] at d
        refine h1 ⟨c1, c2, c3, d⟩ _ (((o.trans o2).trans o3).upp (by decide)).up16 ?_ (fun c b1 b2 => ?_)
        · rw [up_h, up_o (by omega), g1']
          unfold pAt
          rw [if_pos c1, if_pos c2, if_pos ⟨c3, d⟩]
        · rw [up_o (by omega)]
          rcases (by omega : c = 0 ∨ c = 1 ∨ c = 2 ∨ c = 3) with rfl | rfl | rfl | rfl
          · rw [up_o (by omega), g3 _ (by omega) (by omega) (by omega), f3 _ (by omega) (by omega) (by omega)]; exact e2
          · rw [up_o (by omega), g3 _ (by omega) (by omega) (by omega)]; exact f2
          · rw [up_o (by omega)]; exact g2
          · rw [show (163 : Int) + 3 = 166 from rfl, up_h, g1']; rfl
      · rw [g1'] at d
        refine h0 (fun q => d q.2.2.2) _ ((o.trans o2).trans o3) ?_
        rw [g1']
        unfold pAt
        rw [if_pos c1, if_pos c2, if_neg (fun q => d q.2)]
    · rw [f1'] at nok g1
      refine h0 (fun q => nok q.2.2.1) _ ((o.trans o2).trans o3) ?_
      rw [g1]
      unfold pAt
      rw [if_pos c1, if_pos c2, if_neg (fun q => nok q.1)]
      rfl
  · rw [e1'] at nok f1
    refine h0 (fun q => nok q.2.1) _ (o.trans o2) ?_
    have nok' : ¬ (pY s (I 158 16)).1 = 1 := nok
    rw [f1]
    unfold pAt
    rw [if_pos c1, if_neg nok']
    rfl
theorem s_Mo_points {s : Int → Int} {Q : Int → sk_S → Prop} {I : sk_S} (hf : 0 ≤ I 158 9 ∧ I 158 9 < 8) (T : TM s I)
    (h : ∀ J : sk_S, (∀ a k, ¬ (a = 158 ∧ (k = 16 ∨ k = 17)) → ¬ (163 ≤ a ∧ a ≤ 166 ∧ 10 * I 158 9 ≤ k) → J a k = I a k) → ((pf s (I 158 15) 10 0).1 = 0 → J 158 16 = (pf s (I 158 15) 10 0).2) → ((pf s (I 158 15) 10 0).1 ≠ 0 → ∀ j : Nat, (j : Int) < (pf s (I 158 15) 10 0).1 → ∀ c : Int, 0 ≤ c → c < 4 → J (163 + c) (10 * I 158 9 + j) = pVal s (ps s j) c) → Q (pf s (I 158 15) 10 0).1 J) : M_Mo_points Q I := by
  have t := T.1
  have hN : ∀ k, I 158 15 ≤ k → s k = -1 := fun k hk => by
    have := T.2 k (by omega)
    rwa [if_pos hk] at this
  generalize hR : pf s (I 158 15) 10 0 = R at h
  unfold M_Mo_points
  intro X hX
  have key : ∀ (n j : Nat) (J : sk_S), n + j = 10 → j < 10 → (∀ a k, ¬ (a = 158 ∧ (k = 16 ∨ k = 17)) → ¬ (163 ≤ a ∧ a ≤ 166 ∧ 10 * I 158 9 ≤ k) → J a k = I a k) → J 158 16 = ps s j → (∀ i : Nat, i < j → pAt s (ps s i) < I 158 15 ∧ ∀ c : Int, 0 ≤ c → c < 4 → J (163 + c) (10 * I 158 9 + i) = pVal s (ps s i) c) → pf s (I 158 15) n j = R → X ((j : Int) + 1) J := by
    intro n
    induction n with
    | zero => intro j J h1 h2; omega
    | succ n ih =>
      intro j J h1 h1' h2 h3 h6 h7
      have e9 : J 158 9 = I 158 9 := h2 _ _ (by omega) (by omega)
      have TJ : TM s J := by
        unfold TM
        rw [h2 158 15 (by omega) (by omega)]
        refine ⟨t, fun k hk => ?_⟩
        rw [h2 167 k (by omega) (by omega)]
        exact T.2 k hk
      have hp := ps_rg hN t.1 j (fun i hi => (h6 i hi).1)
      have ha := pAt_rg hN hp.2
      unfold pf at h7
      refine hX _ _ (bF (by omega) ⟨by omega, s_Mo_point TJ (by omega) (by omega) (fun ok K oK k1 k2 => ?_) (fun ok K oK k1 => ?_)⟩)
      · rw [h3] at ok k1 k2
        rw [if_pos ok] at h7
        have hfr : ∀ a k, ¬ (a = 158 ∧ (k = 16 ∨ k = 17)) → ¬ (163 ≤ a ∧ a ≤ 166 ∧ 10 * I 158 9 ≤ k) → K a k = I a k := fun a k q1 q2 => by
          rw [oK a k q1 (by omega)]
          exact h2 a k q1 q2
        have e11 : K 158 15 = I 158 15 := hfr _ _ (by omega) (by omega)
        have eC : ∀ i : Nat, i < j + 1 → ∀ c : Int, 0 ≤ c → c < 4 → K (163 + c) (10 * I 158 9 + i) = pVal s (ps s i) c := by
          intro i hi c c1 c2
          by_cases e : i = j
          · subst e
            have := k2 c c1 c2
            rwa [show 10 * J 158 9 + ((i : Int) + 1) - 1 = 10 * I 158 9 + i by omega] at this
          · rw [oK _ _ (by omega) (by omega)]
            exact (h6 i (by omega)).2 c c1 c2
        have TK := TJ.cong oK
        refine n1 ?_
        by_cases c1 : I 158 15 ≤ pAt s (ps s j)
        · rw [if_pos c1] at h7
          subst h7
          refine nF (by omega) ?_
          exact h K hfr (fun q => by have : (j : Int) + 1 = 0 := q; omega) (fun _ i hi => eC i (by have : (i : Int) < (j : Int) + 1 := hi; omega))
        · rw [if_neg c1] at h7
          refine nT (by omega) ?_
          by_cases c9 : (j : Int) + 1 = 10
          · refine bT c9 ?_
            obtain rfl : n = 0 := by omega
            have e : R = (0, pAt s (ps s j)) := by
              rw [← h7]
              split
              · show (0, pAt s (ps s j) + 1 - 1) = _
                rw [show pAt s (ps s j) + 1 - 1 = pAt s (ps s j) by omega]
              · rfl
            subst e
            exact h K hfr (fun _ => k1) (fun q => absurd rfl q)
          · refine bF c9 (s_takes TK (by omega) (by decide) (fun e => n1 ⟨by omega, nm ?_⟩) (fun e => n0 ?_))
            · rw [k1] at e
              rw [if_pos e] at h7
              have := ih (j + 1) (up K 158 16 (K 158 16 + 1)) (by omega) (by omega) (fun a k q1 q2 => by rw [up_o (by omega)]; exact hfr a k q1 q2) (by rw [up_h, k1]; rfl) (fun i hi => ⟨?_, fun c c3 c4 => by rw [up_o (by omega)]; exact eC i hi c c3 c4⟩) h7
              · rwa [show ((j + 1 : Nat) : Int) = (j : Int) + 1 by omega] at this
              · by_cases e : i = j
                · subst e; omega
                · exact (h6 i (by omega)).1
            · rw [k1] at e
              rw [if_neg e] at h7
              subst h7
              exact h K hfr (fun _ => k1) (fun q => absurd rfl q)
      · rw [h3] at ok k1
        rw [if_neg ok] at h7
        subst h7
        refine n0 ?_
        exact h K (fun a k q1 q2 => by rw [oK a k q1 (by omega)]; exact h2 a k q1 q2) (fun _ => k1) (fun q => absurd rfl q)
  have := key 10 0 (up I 158 16 0) rfl (by decide) (fun a k q1 q2 => up_o (by omega)) (by rw [up_h]; rfl) (fun i hi => absurd hi (Nat.not_lt_zero i)) hR
  exact this
theorem step_figure {I : sk_S} (h : Inv I) {Q : Int → sk_S → Prop} (hQ : ∀ r I1, Two M_Mo_figure r I1 → Q r I1) : M_Sky_figure Q I := by
  obtain ⟨h1, h2, h3, h4, h5, h6, h7⟩ := id h
  have h8 := h2.2.1
  have e9 := h2.1
  obtain ⟨t1, t2, t3⟩ := id h4
  unfold rg at h8 t2
  by_cases c : I 4 3 < 8
  · refine bT c ?_
    refine s_Gallery_at (by omega) ?_
    rw [pa_f (by omega)]
    have T : TC (fun k => if I 1 1 ≤ k then -1 else I 3 k) I := ⟨t2, fun k _ => rfl⟩
    have hs2 : ∀ k : Int, 0 ≤ k → (fun k => if I 1 1 ≤ k then -1 else I 3 k) k = if I 158 15 ≤ k then -1 else I 167 k := fun k hk => by
      show (if I 1 1 ≤ k then (-1 : Int) else I 3 k) = _
      rw [t1]
      by_cases q : I 158 15 ≤ k
      · rw [if_pos q, if_pos q]
      · rw [if_neg q, if_neg q]; exact (t3 k hk (by omega)).1
    generalize (fun k => if I 1 1 ≤ k then (-1 : Int) else I 3 k) = s at T hs2
    refine s_Tape_read ⟨h8.1, c⟩ T (fun J hJ hr hr1 hr2 hr3 => ?_)
    have ep : I 158 15 = I 1 1 := t1.symm
    generalize hR : pf s (I 1 1) 10 0 = R at hr hr1 hr2 hr3
    -- the reference, from a state that is the class's outside of what was read
    have mo : ∀ I1 : sk_S, (∀ a k, ¬ (a = 1) → a ≠ 12 + 3 * I 4 3 → a ≠ 14 + 3 * I 4 3 → ¬ (a = 4 ∧ k = 3) → I1 a k = I a k) → ∀ K : Int → sk_S → Prop, (∀ J' : sk_S, (∀ a k, ¬ (a = 158 ∧ (k = 15 ∨ k = 16 ∨ k = 17)) → ¬ (163 ≤ a ∧ a ≤ 166 ∧ 10 * I 4 3 ≤ k) → J' a k = I1 a k) → J' 158 15 = 0 → (R.1 = 0 → K (-10 - R.2) J') ∧ (R.1 ≠ 0 → (∀ j : Nat, (j : Int) < R.1 → ∀ c : Int, 0 ≤ c → c < 4 → J' (163 + c) (10 * I 4 3 + j) = pVal s (ps s j) c) → K (I 4 3) (up (up J' 162 (I 4 3) R.1) 158 9 (I 4 3 + 1)))) → M_Mo_figure K I1 := by
      intro I1 hI1 K hK
      have f9 : I1 158 9 = I 4 3 := by rw [hI1 _ _ (by omega) (by omega) (by omega) (by omega), e9]
      have f15 : I1 158 15 = I 1 1 := by rw [hI1 _ _ (by omega) (by omega) (by omega) (by omega), ep]
      have TMs : TM s I1 := by
        unfold TM
        rw [f15]
        refine ⟨t2, fun k hk => ?_⟩
        rw [hI1 167 k (by omega) (by omega) (by omega) (by omega), hs2 k hk, ep]
      refine nT (by omega) (s_Mo_points (by omega) TMs (fun J' hJ' g1 g2 => ?_))
      rw [f15, hR] at g1 g2
      rw [f15, hR]
      rw [f9] at hJ' g2
      have hJ0 := hK (up J' 158 15 0) (fun a k q1 q2 => by rw [up_o (by omega)]; exact hJ' a k (by omega) q2) up_h
      have j9 : up J' 158 15 0 158 9 = I 4 3 := by rw [up_o (by omega), hJ' _ _ (by omega) (by omega), f9]
      refine ⟨fun q => ?_, fun q => ?_⟩
      · have j9' : ∀ v : Int, up (up J' 158 15 0) 162 (I 4 3) v 158 9 = I 4 3 := fun v => by rw [up_o (by omega), j9]
        rw [j9, j9', up_h]
        refine ⟨⟨h8.1, c⟩, by omega, by omega, ?_⟩
        have := hJ0.2 q (fun j hj c c1 c2 => by rw [up_o (by omega)]; exact g2 q j hj c c1 c2)
        rwa [show I 4 3 + 1 - 1 = I 4 3 by omega]
      · have j16 : up J' 158 15 0 158 16 = R.2 := by rw [up_o (by omega)]; exact g1 q
        rw [j16]
        exact ⟨by omega, hJ0.1 q⟩
    by_cases cR : R.1 = 0
    · rw [if_pos cR]
      refine nT (by have := hr3 cR; omega) ⟨by omega, hQ _ _ fun K hK => ?_⟩
      refine mo _ (fun a k q1 q2 q3 q4 => by rw [up_o (by omega)]; exact hJ a k (by omega) q2 q3) K (fun J' hJ' hz => ⟨fun _ => ?_, fun q => absurd cR q⟩)
      have e1 : ∀ a k, a ≠ 1 → ¬ (a = 158 ∧ (k = 15 ∨ k = 16 ∨ k = 17)) → ¬ (163 ≤ a ∧ a ≤ 166 ∧ 10 * I 4 3 ≤ k) → a ≠ 12 + 3 * I 4 3 → a ≠ 14 + 3 * I 4 3 → J' a k = I a k := fun a k q1 q2 q3 q4 q5 => by
        rw [hJ' a k q2 q3, up_o (by omega)]
        exact hJ a k (by omega) q4 q5
      refine Ok.use hK ⟨rfl, h1.cong fun a k d => ?_, h2.cong fun a k d => ?_, h3.cong fun a k d => ?_, ?_, h5.cong fun a k d => ?_, h6.cong (by omega) (Or.inl ?_) (sameFig_of (fun a k d => ?_) (by omega)) (fun a k d => ?_), h7.cong fun a k d => ?_⟩
      · unfold dFly at d; exact e1 a k (by omega) (by omega) (by omega) (by omega) (by omega)
      · unfold dFig at d; exact e1 a k (by omega) (by omega) (by omega) (by omega) (by omega)
      · unfold dAir at d; exact e1 a k (by omega) (by omega) (by omega) (by omega) (by omega)
      · unfold iTape
        rw [hz, hJ' 1 1 (by omega) (by omega), up_h]
        exact ⟨rfl, ⟨by omega, by omega⟩, fun j q1 q2 => by omega⟩
      · unfold dPass at d; exact e1 a k (by omega) (by omega) (by omega) (by omega) (by omega)
      · exact e1 _ _ (by omega) (by omega) (by omega) (by omega) (by omega)
      · exact e1 a k (by omega) (by omega) (by omega) (by omega) (by omega)
      · unfold dShow at d; exact e1 a k (by omega) (by omega) (by omega) (by omega) (by omega)
      · unfold dMark at d; exact e1 a k (by omega) (by omega) (by omega) (by omega) (by omega)
    · rw [if_neg cR]
      have j43 : up J 1 1 0 4 3 = I 4 3 := by rw [up_o (by omega)]; exact hJ _ _ (by omega) (by omega) (by omega)
      refine nF rfl ?_
      unfold M_Gallery_keepSpare
      rw [j43, up_h, show I 4 3 + 1 - 1 = I 4 3 by omega]
      refine ⟨by omega, by omega, hQ _ _ fun K hK => ?_⟩
      refine mo _ (fun a k q1 q2 q3 q4 => by rw [up_o q4, up_o (by omega)]; exact hJ a k (by omega) q2 q3) K (fun J' hJ' hz => ⟨fun q => absurd q cR, fun _ hv => ?_⟩)
      obtain ⟨hrS, hrP⟩ := hr cR
      generalize hL : up (up J' 162 (I 4 3) R.1) 158 9 (I 4 3 + 1) = L
      have e0 : ∀ a k, ¬ (a = 162 ∧ k = I 4 3) → ¬ (a = 158 ∧ k = 9) → L a k = J' a k := fun a k q1 q2 => by rw [← hL, up_o q2, up_o q1]
      have e1 : ∀ a k, a ≠ 1 → ¬ (a = 158 ∧ (k = 15 ∨ k = 16 ∨ k = 17)) → ¬ (163 ≤ a ∧ a ≤ 166 ∧ 10 * I 4 3 ≤ k) → a ≠ 12 + 3 * I 4 3 → a ≠ 14 + 3 * I 4 3 → ¬ (a = 162 ∧ k = I 4 3) → ¬ (a = 158 ∧ k = 9) → ¬ (a = 4 ∧ k = 3) → L a k = I a k := fun a k q1 q2 q3 q4 q5 q6 q7 q8 => by
        rw [e0 a k q6 q7, hJ' a k q2 q3, up_o q8, up_o (by omega)]
        exact hJ a k (by omega) q4 q5
      have l43 : L 4 3 = I 4 3 + 1 := by rw [e0 _ _ (by omega) (by omega), hJ' _ _ (by omega) (by omega), up_h]
      have l9 : L 158 9 = I 4 3 + 1 := by rw [← hL, up_h]
      refine Ok.use hK ⟨rfl, h1.cong fun a k d => ?_, ?_, h3.cong fun a k d => ?_, ?_, h5.cong fun a k d => ?_, h6.cong (by omega) (Or.inr ?_) (sameFig_of (fun a k d => ?_) (by omega)) (fun a k d => ?_), h7.cong fun a k d => ?_⟩
      · unfold dFly at d; exact e1 a k (by omega) (by omega) (by omega) (by omega) (by omega) (by omega) (by omega) (by omega)
      · unfold iFig
        rw [l43, l9]
        refine ⟨rfl, ⟨by omega, by omega⟩, fun f q1 q2 => ?_⟩
        by_cases e : f = I 4 3
        · have b1 : L (12 + 3 * I 4 3) 1 = R.1 := by rw [e0 _ _ (by omega) (by omega), hJ' _ _ (by omega) (by omega), up_o (by omega), up_o (by omega)]; exact hrS
          have b2 : L 162 (I 4 3) = R.1 := by rw [← hL, up_o (by omega), up_h]
          rw [e, b1, b2]
          refine ⟨rfl, ⟨by omega, by omega⟩, fun i i1 i2 => ?_⟩
          obtain ⟨j, rfl⟩ : ∃ j : Nat, i = j := ⟨i.toNat, by omega⟩
          obtain ⟨ok, hc⟩ := hrP j i2
          have hp := pVal_rg s ok
          have k1 : ∀ c : Int, 0 ≤ c → c < 4 → L (14 + 3 * I 4 3) ((j : Int) * 4 + c) = pVal s (ps s j) c := fun c c1 c2 => by
            rw [e0 _ _ (by omega) (by omega), hJ' _ _ (by omega) (by omega), up_o (by omega), up_o (by omega)]
            exact hc c c1 c2
          have k2 : ∀ c : Int, 0 ≤ c → c < 4 → L (163 + c) (10 * I 4 3 + j) = pVal s (ps s j) c := fun c c1 c2 => by
            rw [e0 _ _ (by omega) (by omega)]
            exact hv j i2 c c1 c2
          have m0 := k2 0 (by omega) (by omega)
          have m1 := k2 1 (by omega) (by omega)
          have m2 := k2 2 (by omega) (by omega)
          have m3 := k2 3 (by omega) (by omega)
          rw [show (163 : Int) + 0 = 163 from rfl] at m0
          rw [show (163 : Int) + 1 = 164 from rfl] at m1
          rw [show (163 : Int) + 2 = 165 from rfl] at m2
          rw [show (163 : Int) + 3 = 166 from rfl] at m3
          rw [k1 0 (by omega) (by omega), k1 1 (by omega) (by omega), k1 2 (by omega) (by omega), k1 3 (by omega) (by omega), m0, m1, m2, m3]
          exact ⟨⟨rfl, rfl, rfl, rfl⟩, hp.1, hp.2.1, hp.2.2.1, hp.2.2.2⟩
        · obtain ⟨g1, g2, g3⟩ := h2.2.2 f q1 (by omega)
          have g2' := g2
          unfold rg at g2'
          rw [e1 162 f (by omega) (by omega) (by omega) (by omega) (by omega) (by omega) (by omega) (by omega), e1 (12 + 3 * f) 1 (by omega) (by omega) (by omega) (by omega) (by omega) (by omega) (by omega) (by omega)]
          refine ⟨g1, g2, fun i i1 i2 => ?_⟩
          have w : ∀ a k, (a = 14 + 3 * f ∨ (163 ≤ a ∧ a ≤ 166 ∧ k = 10 * f + i)) → L a k = I a k := fun a k q => e1 a k (by omega) (by omega) (by omega) (by omega) (by omega) (by omega) (by omega) (by omega)
          rw [w (14 + 3 * f) _ (by omega), w (14 + 3 * f) _ (by omega), w (14 + 3 * f) _ (by omega), w (14 + 3 * f) _ (by omega), w 163 _ (by omega), w 164 _ (by omega), w 165 _ (by omega), w 166 _ (by omega)]
          exact g3 i i1 i2
      · unfold dAir at d; exact e1 a k (by omega) (by omega) (by omega) (by omega) (by omega) (by omega) (by omega) (by omega)
      · unfold iTape
        rw [e0 158 15 (by omega) (by omega), hz, e0 1 1 (by omega) (by omega), hJ' 1 1 (by omega) (by omega), up_o (by omega), up_h]
        exact ⟨rfl, ⟨by omega, by omega⟩, fun j q1 q2 => by omega⟩
      · unfold dPass at d; exact e1 a k (by omega) (by omega) (by omega) (by omega) (by omega) (by omega) (by omega) (by omega)
      · omega
      · exact e1 a k (by omega) (by omega) (by omega) (by omega) (by omega) (by omega) (by omega) (by omega)
      · unfold dShow at d; exact e1 a k (by omega) (by omega) (by omega) (by omega) (by omega) (by omega) (by omega) (by omega)
      · unfold dMark at d; exact e1 a k (by omega) (by omega) (by omega) (by omega) (by omega) (by omega) (by omega) (by omega)
  · refine bF c (hQ _ _ fun K hK => ?_)
    exact nF (by omega) (Ok.use hK ⟨rfl, h⟩)
