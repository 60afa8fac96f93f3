/-! ===== a point, a figure: of the bytes; the class's reading ===== -/
def pX (s : Int → Int) (i : Int) : Int × Int × Int := pnr s 1 44 i
def pY (s : Int → Int) (i : Int) : Int × Int × Int := pnr s 1 44 (pX s i).2.1
def pZ (s : Int → Int) (i : Int) : Int × Int × Int := pnr s 0 58 (pY s i).2.1
abbrev pOk (s : Int → Int) (i : Int) : Prop := (pX s i).1 = 1 ∧ (pY s i).1 = 1 ∧ (pZ s i).1 = 1 ∧ dg (s (pZ s i).2.1)
def pAt (s : Int → Int) (i : Int) : Int := if (pX s i).1 = 1 then (if (pY s i).1 = 1 then (if (pZ s i).1 = 1 ∧ dg (s (pZ s i).2.1) then (pZ s i).2.1 + 1 else (pZ s i).2.1) else (pY s i).2.1) else (pX s i).2.1
def pVal (s : Int → Int) (i c : Int) : Int := if c = 0 then (pX s i).2.2 else if c = 1 then (pY s i).2.2 else if c = 2 then (pZ s i).2.2 else s (pZ s i).2.1 - 48
/-- where the points begin -/
def ps (s : Int → Int) : Nat → Int
  | 0 => 0
  | j + 1 => pAt s (ps s j) + 1
/-- how many points, or 0 and the fault -/
def pf (s : Int → Int) (n : Int) : Nat → Nat → Int × Int
  | 0, j => (0, ps s j - 1)
  | f + 1, j => if pOk s (ps s j) then (if n ≤ pAt s (ps s j) then ((j : Int) + 1, pAt s (ps s j)) else if s (pAt s (ps s j)) = 59 then pf s n f (j + 1) else (0, pAt s (ps s j))) else (0, pAt s (ps s j))
theorem pdf_le {s : Int → Int} {N : Int} (hN : ∀ k, N ≤ k → s k = -1) (b : Int) : ∀ (n : Nat) (m v i : Int), i ≤ N → (pdf s b n m v i).2.1 ≤ N := by
  intro n
  induction n with
  | zero => intro m v i h; exact h
  | succ n ih =>
    intro m v i h
    unfold pdf
    split
    · rename_i h1
      have : i < N := by
        rcases Int.lt_or_le i N with q | q
        · exact q
        · have := hN i q; omega
      split
      · exact h
      · exact ih _ _ _ (by omega)
    · exact h
theorem pnr_le {s : Int → Int} {N : Int} (hN : ∀ k, N ≤ k → s k = -1) {g h i : Int} (hh : h ≠ -1) (hi : i ≤ N) : (pnr s g h i).2.1 ≤ N := by
  have hm : i + mb s g i ≤ N := by
    unfold mb
    split
    · rcases Int.lt_or_le i N with q | q
      · omega
      · have := hN i q; omega
    · omega
  have h1 : (pnd s g i).2.1 ≤ N := pdf_le hN _ 3 0 0 _ hm
  unfold pnr
  split
  · rename_i h2
    dsimp only
    rcases Int.lt_or_le (pnd s g i).2.1 N with q | q
    · omega
    · have := hN _ q; omega
  · exact h1
theorem pAt_rg {s : Int → Int} {N : Int} (hN : ∀ k, N ≤ k → s k = -1) {i : Int} (hi : i ≤ N) : i ≤ pAt s i ∧ pAt s i ≤ N := by
  have a1 : (pX s i).2.1 ≤ N := pnr_le hN (by decide) hi
  have a2 : i ≤ (pX s i).2.1 := (pnr_rg s 1 44 i).2
  have b1 : (pY s i).2.1 ≤ N := pnr_le hN (by decide) a1
  have b2 : (pX s i).2.1 ≤ (pY s i).2.1 := (pnr_rg s 1 44 _).2
  have c1 : (pZ s i).2.1 ≤ N := pnr_le hN (by decide) b1
  have c2 : (pY s i).2.1 ≤ (pZ s i).2.1 := (pnr_rg s 0 58 _).2
  unfold pAt
  split
  · split
    · split
      · rename_i h
        rcases Int.lt_or_le (pZ s i).2.1 N with q | q
        · omega
        · have := hN _ q; omega
      · omega
    · omega
  · omega
theorem ps_rg {s : Int → Int} {N : Int} (hN : ∀ k, N ≤ k → s k = -1) (h0 : 0 ≤ N) : ∀ j : Nat, (∀ i : Nat, i < j → pAt s (ps s i) < N) → 0 ≤ ps s j ∧ ps s j ≤ N := by
  intro j
  induction j with
  | zero => intro _; exact ⟨Int.le_refl _, h0⟩
  | succ j ih =>
    intro h
    have h1 := ih (fun i hi => h i (by omega))
    have h2 := pAt_rg hN h1.2
    have h3 := h j (by omega)
    show 0 ≤ pAt s (ps s j) + 1 ∧ pAt s (ps s j) + 1 ≤ N
    omega
theorem pVal_rg (s : Int → Int) {i : Int} (h : pOk s i) : rg (-200) 200 (pVal s i 0) ∧ rg (-200) 200 (pVal s i 1) ∧ rg 0 200 (pVal s i 2) ∧ rg 0 9 (pVal s i 3) := by
  have a := (pnr_rg s 1 44 i).1.1
  have b := (pnr_rg s 1 44 (pX s i).2.1).1.1
  have c := (pnr_rg s 0 58 (pY s i).2.1).1
  have d := h.2.2.2
  refine ⟨a, b, ⟨c.2 rfl, c.1.2⟩, ?_⟩
  unfold rg
  show 0 ≤ s (pZ s i).2.1 - 48 ∧ s (pZ s i).2.1 - 48 ≤ 9
  omega
theorem s_readNumber_f {s : Int → Int} {g hh : Int} {Q : Int → sk_S → Prop} {I : sk_S} (T : TC s I) (hp : 0 ≤ I 1 2) (hf : ¬ I 1 3 = 0) (h : ∀ (v : Int) (J : sk_S), oT I J → J 1 2 = I 1 2 → ¬ J 1 3 = 0 → Q v J) : M_Tape_readNumber g hh Q I := by
  have u : ¬ (up I 1 3 1) 1 3 = 0 := by rw [up_h]; decide
  refine nT hf (z0 ?_)
  intro X hX
  have j31 : J_Tape_readDigits_31 0 0 (fun r_42 I_42 => ((¬ I_42 1 3 = 0 → J_Tape_readNumber_75 0 r_42 Q I_42) ∧ (I_42 1 3 = 0 → M_Tape_byteHere (fun r_55 I_55 => ((¬ r_55 = hh → J_Tape_readNumber_75 0 r_42 Q I_55) ∧ (r_55 = hh → rI ((I_55 1 2) + 1) ∧ J_Tape_readNumber_80 0 r_42 Q (up I_55 1 2 ((I_55 1 2) + 1))))) I_42))) I :=
    nT hf (nT u (z0 (h 0 _ oT.rfl'.up3.up3 (by rw [up_o (by omega), up_o (by omega)]) (by rw [up_h]; decide))))
  exact hX _ _ _ (bF (by decide) (s_byteHere T hp (s_digitOf (fun d => nT hf j31) (fun d => nT hf j31))))
/-- the place for the next points holds as many, told by pVal -/
theorem s_readPoint {s : Int → Int} {p : Int} {Q : sk_S → Prop} {I : sk_S} (hk : kd p = 5) (h1' : p ≠ 1) (h1'' : p + 2 ≠ 1) (T : TC s I) (hp : 0 ≤ I 1 2) (hf : I 1 3 = 0) (hs : 0 ≤ I p 1 ∧ I p 1 < 10)
    (h1 : pOk s (I 1 2) → ∀ J : sk_S, (∀ a k, ¬ (a = 1 ∧ (k = 2 ∨ k = 3)) → J a k = if a = p ∧ k = 1 then I p 1 + 1 else if a = p + 2 ∧ I p 1 * 4 ≤ k ∧ k < I p 1 * 4 + 4 then pVal s (I 1 2) (k - I p 1 * 4) else I a k) → J 1 2 = pAt s (I 1 2) → J 1 3 = 0 → Q J)
    (h0 : ¬ pOk s (I 1 2) → ∀ J : sk_S, oT I J → J 1 2 = pAt s (I 1 2) → ¬ J 1 3 = 0 → Q J) : M_Tape_readPoint p Q I := by
  refine s_readNumber T hp hf (by decide) (fun x J oJ j1 j2 j3 => ?_)
  have TJ := T.cong oJ
  have x2 := (pnr_rg s 1 44 (I 1 2)).2
  have fin : ∀ (J : sk_S) (r : Int), oT I J → J 1 2 = pAt s (I 1 2) → ¬ J 1 3 = 0 → ¬ pOk s (I 1 2) → ∀ K : Prop, ((¬ J 1 3 = 0 → Q J) ∧ (J 1 3 = 0 → K)) := fun J r o e f n K => nT f (h0 n J o e f)
  have worth : ∀ (J : sk_S), oT I J → J 1 2 = pAt s (I 1 2) → ¬ J 1 3 = 0 → ¬ pOk s (I 1 2) → ∀ K : Int → sk_S → Prop, M_Tape_readWorth (fun r_26 I_26 => ((¬ I_26 1 3 = 0 → Q I_26) ∧ (I_26 1 3 = 0 → K r_26 I_26))) J := by
    intro J o e f n K
    have T' := T.cong o
    have hpos : 0 ≤ J 1 2 := by
      rw [e]
      have hN : ∀ k, max (I 1 1) (I 1 2) ≤ k → s k = -1 := fun k hk => by
        have := T.2 k (by omega)
        rwa [if_pos (by omega)] at this
      have := (pAt_rg hN (i := I 1 2) (by omega)).1
      omega
    refine s_byteHere T' hpos (s_digitOf (fun d => ?_) (fun d => ?_))
    · exact nT f (fin _ 0 o.up3 (by rw [up_o (by omega)]; exact e) (by rw [up_h]; decide) n _)
    · exact nT f (fin _ 0 o.up3 (by rw [up_o (by omega)]; exact e) (by rw [up_h]; decide) n _)
  by_cases c1 : (pX s (I 1 2)).1 = 1
  · have j2' : J 1 3 = 0 := by rw [j2]; exact if_pos c1
    have j1' : J 1 2 = (pX s (I 1 2)).2.1 := j1
    have x2' : I 1 2 ≤ (pX s (I 1 2)).2.1 := x2
    refine s_readNumber TJ (by omega) j2' (by decide) (fun y L oL l1 l2 l3 => ?_)
    rw [j1'] at l1 l2 l3
    have TL := TJ.cong oL
    have y2 : (pX s (I 1 2)).2.1 ≤ (pY s (I 1 2)).2.1 := (pnr_rg s 1 44 _).2
    have l1' : L 1 2 = (pY s (I 1 2)).2.1 := l1
    by_cases c2 : (pY s (I 1 2)).1 = 1
    · have l2' : L 1 3 = 0 := by rw [l2]; exact if_pos c2
      refine s_readNumber TL (by omega) l2' (by decide) (fun z M oM m1 m2 m3 => ?_)
      rw [l1'] at m1 m2 m3
      have TM := TL.cong oM
      have z2 : (pY s (I 1 2)).2.1 ≤ (pZ s (I 1 2)).2.1 := (pnr_rg s 0 58 _).2
      have m1' : M 1 2 = (pZ s (I 1 2)).2.1 := m1
      have oIM := (oJ.trans oL).trans oM
      by_cases c3 : (pZ s (I 1 2)).1 = 1
      · have m2' : M 1 3 = 0 := by rw [m2]; exact if_pos c3
        refine s_byteHere TM (by omega) (s_digitOf (fun d => ?_) (fun d => ?_))
        · rw [m1'] at d
          have hlt := TM.lt (k := M 1 2) (by omega) (by rw [m1']; omega)
          have tm := TM.1
          have e1 : pAt s (I 1 2) = (pZ s (I 1 2)).2.1 + 1 := by unfold pAt; rw [if_pos c1, if_pos c2, if_pos ⟨c3, d⟩]
          refine nF m2' (nT (by rw [m1']; omega) ⟨by omega, ?_⟩)
          have ep : up M 1 2 (M 1 2 + 1) p 1 = I p 1 := by rw [up_o (by omega), oIM _ _ (by omega)]
          refine nF (by rw [up_o (by omega)]; exact m2') (s_Places_add hk (by rw [ep]; exact hs) (fun K hK => ?_))
          rw [ep] at hK
          refine h1 ⟨c1, c2, c3, d⟩ K (fun a k q => ?_) ?_ ?_
          · rw [hK]
            by_cases q1 : a = p ∧ k = 1
            · rw [if_pos q1, if_pos q1]
            · rw [if_neg q1, if_neg q1]
              by_cases q2 : a = p + 2 ∧ I p 1 * 4 ≤ k ∧ k < I p 1 * 4 + 4
              · rw [if_pos q2]
                rcases (by omega : k = I p 1 * 4 + 0 ∨ k = I p 1 * 4 + 1 ∨ k = I p 1 * 4 + 2 ∨ k = I p 1 * 4 + 3) with e | e | e | e
                · rw [if_pos ⟨q2.1, e⟩, show k - I p 1 * 4 = 0 by omega]; exact j3 c1
                · rw [if_neg (by omega), if_pos ⟨q2.1, e⟩, show k - I p 1 * 4 = 1 by omega]; exact l3 c2
                · rw [if_neg (by omega), if_neg (by omega), if_pos ⟨q2.1, e⟩, show k - I p 1 * 4 = 2 by omega]; exact m3 c3
                · rw [if_neg (by omega), if_neg (by omega), if_neg (by omega), if_pos ⟨q2.1, e⟩, show k - I p 1 * 4 = 3 by omega, m1']; rfl
              · rw [if_neg q2, if_neg (by omega), if_neg (by omega), if_neg (by omega), if_neg (by omega), up_o (by omega)]
                exact oIM a k q
          · rw [hK, if_neg (by omega), if_neg (by omega), if_neg (by omega), if_neg (by omega), if_neg (by omega), up_h, m1', e1]
          · rw [hK, if_neg (by omega), if_neg (by omega), if_neg (by omega), if_neg (by omega), if_neg (by omega), up_o (by omega)]; exact m2'
        · rw [m1'] at d
          have e1 : pAt s (I 1 2) = (pZ s (I 1 2)).2.1 := by unfold pAt; rw [if_pos c1, if_pos c2, if_neg (fun q => d q.2)]
          refine nF m2' (nF rfl ?_)
          exact fin _ 0 oIM.up3 (by rw [up_o (by omega), e1]; exact m1') (by rw [up_h]; decide) (fun q => d q.2.2.2) _
      · have e1 : pAt s (I 1 2) = (pZ s (I 1 2)).2.1 := by unfold pAt; rw [if_pos c1, if_pos c2, if_neg (fun q => c3 q.1)]
        exact worth M oIM (by rw [e1]; exact m1') (by rw [m2]; show ¬ (if (pZ s (I 1 2)).1 = 1 then (0 : Int) else 1) = 0; rw [if_neg c3]; decide) (fun q => c3 q.2.2.1) _
    · have e1 : pAt s (I 1 2) = (pY s (I 1 2)).2.1 := by unfold pAt; rw [if_pos c1, if_neg c2]
      have l2' : ¬ L 1 3 = 0 := by rw [l2]; show ¬ (if (pY s (I 1 2)).1 = 1 then (0 : Int) else 1) = 0; rw [if_neg c2]; decide
      refine s_readNumber_f TL (by omega) l2' (fun z M oM m1 m2 => ?_)
      exact worth M ((oJ.trans oL).trans oM) (by rw [e1, m1]; exact l1') m2 (fun q => c2 q.2.1) _
  · have e1 : pAt s (I 1 2) = (pX s (I 1 2)).2.1 := by unfold pAt; rw [if_neg c1]
    have j1' : J 1 2 = (pX s (I 1 2)).2.1 := j1
    have x2' : I 1 2 ≤ (pX s (I 1 2)).2.1 := x2
    have j2' : ¬ J 1 3 = 0 := by rw [j2]; show ¬ (if (pX s (I 1 2)).1 = 1 then (0 : Int) else 1) = 0; rw [if_neg c1]; decide
    refine s_readNumber_f TJ (by omega) j2' (fun y L oL l1 l2 => ?_)
    have TL := TJ.cong oL
    refine s_readNumber_f TL (by omega) l2 (fun z M oM m1 m2 => ?_)
    exact worth M ((oJ.trans oL).trans oM) (by rw [e1, m1, l1]; exact j1') m2 (fun q => c1 q.1) _
