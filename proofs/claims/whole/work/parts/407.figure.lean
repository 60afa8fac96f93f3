/-! ===== the class reads a figure ===== -/
theorem s_Tape_read {s : Int → Int} {f : Int} {Q : Int → sk_S → Prop} {I : sk_S} (hf : 0 ≤ f ∧ f < 8) (T : TC s I)
    (h : ∀ J : sk_S, (∀ a k, ¬ (a = 1 ∧ (k = 2 ∨ k = 3)) → a ≠ 12 + 3 * f → a ≠ 14 + 3 * f → J a k = I a k) → ((pf s (I 1 1) 10 0).1 ≠ 0 → J (12 + 3 * f) 1 = (pf s (I 1 1) 10 0).1 ∧ ∀ j : Nat, (j : Int) < (pf s (I 1 1) 10 0).1 → pOk s (ps s j) ∧ ∀ c : Int, 0 ≤ c → c < 4 → J (14 + 3 * f) ((j : Int) * 4 + c) = pVal s (ps s j) c) → (0 ≤ (pf s (I 1 1) 10 0).1 ∧ (pf s (I 1 1) 10 0).1 ≤ 10) → (-1 ≤ (pf s (I 1 1) 10 0).2 ∧ (pf s (I 1 1) 10 0).2 ≤ 300) → ((pf s (I 1 1) 10 0).1 = 0 → 0 ≤ (pf s (I 1 1) 10 0).2) → Q (if (pf s (I 1 1) 10 0).1 = 0 then (pf s (I 1 1) 10 0).2 else -1) J) : M_Tape_read (12 + 3 * f) Q I := by
  have t := T.1
  have hN : ∀ k, I 1 1 ≤ k → s k = -1 := fun k hk => by
    have := T.2 k (by omega)
    rwa [if_pos hk] at this
  generalize hR : pf s (I 1 1) 10 0 = R at h
  show M_Tape_read (12 + 3 * f) Q I
  unfold M_Tape_read M_Places_empty
  intro X hX
  have hk5 : kd (12 + 3 * f) = 5 := kd_fig hf
  have key : ∀ (n j : Nat) (J : sk_S), n + j = 10 → (∀ a k, ¬ (a = 1 ∧ (k = 2 ∨ k = 3)) → a ≠ 12 + 3 * f → a ≠ 14 + 3 * f → J a k = I a k) → J 1 2 = ps s j → J 1 3 = 0 → J (12 + 3 * f) 1 = j → (∀ i : Nat, i < j → pAt s (ps s i) < I 1 1 ∧ pOk s (ps s i) ∧ ∀ c : Int, 0 ≤ c → c < 4 → J (14 + 3 * f) ((i : Int) * 4 + c) = pVal s (ps s i) c) → pf s (I 1 1) n j = R → X j J := by
    intro n
    induction n with
    | zero =>
      intro j J h1 h2 h3 h4 h5 h6 h7
      obtain rfl : j = 10 := by omega
      have hp := ps_rg hN t.1 10 (fun i hi => (h6 i hi).1)
      have hp9 : ps s 10 = pAt s (ps s 9) + 1 := rfl
      have hq := ps_rg hN t.1 9 (fun i hi => (h6 i (by omega)).1)
      have hq2 := pAt_rg hN hq.2
      have e : R = (0, ps s 10 - 1) := h7.symm
      subst e
      have := h J h2 (fun q => absurd rfl q) ⟨Int.le_refl 0, by show (0 : Int) ≤ 10; decide⟩ ⟨by show -1 ≤ ps s 10 - 1; omega, by show ps s 10 - 1 ≤ 300; omega⟩ (fun _ => by show 0 ≤ ps s 10 - 1; omega)
      refine hX _ _ (bT (by omega) ⟨by omega, ?_⟩)
      rw [h3]
      exact this
    | succ n ih =>
      intro j J h1 h2 h3 h4 h5 h6 h7
      have TJ : TC s J := by
        unfold TC
        rw [h2 1 1 (by omega) (by omega) (by omega)]
        refine ⟨t, fun k hk => ?_⟩
        rw [h2 3 k (by omega) (by omega) (by omega)]
        exact T.2 k hk
      have hp := ps_rg hN t.1 j (fun i hi => (h6 i hi).1)
      have ha := pAt_rg hN hp.2
      unfold pf at h7
      refine hX _ _ (bF (by omega) (s_readPoint hk5 (by omega) (by omega) TJ (by omega) h4 (by omega) (fun ok K hK k1 k2 => ?_) (fun ok K oK k1 k2 => ?_)))
      · rw [h3] at ok k1 hK
        rw [if_pos ok] at h7
        rw [h5] at hK
        have hfr : ∀ a k, ¬ (a = 1 ∧ (k = 2 ∨ k = 3)) → a ≠ 12 + 3 * f → a ≠ 14 + 3 * f → K a k = I a k := fun a k q1 q2 q3 => by
          rw [hK a k q1, if_neg (by omega), if_neg (by omega)]
          exact h2 a k q1 q2 q3
        have e11 : K 1 1 = I 1 1 := hfr 1 1 (by omega) (by omega) (by omega)
        have eS : K (12 + 3 * f) 1 = j + 1 := by rw [hK _ _ (by omega), if_pos ⟨rfl, rfl⟩]
        have eC : ∀ i : Nat, i < j + 1 → pOk s (ps s i) ∧ ∀ c : Int, 0 ≤ c → c < 4 → K (14 + 3 * f) ((i : Int) * 4 + c) = pVal s (ps s i) c := by
          intro i hi
          by_cases e : i = j
          · subst e
            refine ⟨ok, fun c c1 c2 => ?_⟩
            rw [hK _ _ (by omega), if_neg (by omega), if_pos (by omega), show (i : Int) * 4 + c - (i : Int) * 4 = c by omega]
          · refine ⟨(h6 i (by omega)).2.1, fun c c1 c2 => ?_⟩
            rw [hK _ _ (by omega), if_neg (by omega), if_neg (by omega)]
            exact (h6 i (by omega)).2.2 c c1 c2
        have TK : TC s K := by
          unfold TC
          rw [e11]
          refine ⟨t, fun k hk => ?_⟩
          rw [hfr 3 k (by omega) (by omega) (by omega)]
          exact T.2 k hk
        refine bT k2 ?_
        by_cases c1 : I 1 1 ≤ pAt s (ps s j)
        · rw [if_pos c1] at h7
          subst h7
          refine bF (by omega) ?_
          have := h K hfr (fun _ => ⟨eS, fun i hi => eC i (by show i < j + 1; have : (i : Int) < (j : Int) + 1 := hi; omega)⟩) ⟨by show 0 ≤ (j : Int) + 1; omega, by show (j : Int) + 1 ≤ 10; omega⟩ ⟨by show -1 ≤ pAt s (ps s j); omega, by show pAt s (ps s j) ≤ 300; omega⟩ (fun q => by have : (j : Int) + 1 = 0 := q; omega)
          rwa [if_neg (by show ¬ (j : Int) + 1 = 0; omega)] at this
        · rw [if_neg c1] at h7
          refine bT (by omega) (s_byteHere TK (by omega) ?_)
          rw [k1]
          by_cases c2 : s (pAt s (ps s j)) = 59
          · rw [if_pos c2] at h7
            refine bT c2 ⟨by omega, by omega, nm ?_⟩
            have := ih (j + 1) (up K 1 2 (pAt s (ps s j) + 1)) (by omega) (fun a k q1 q2 q3 => by rw [up_o (by omega)]; exact hfr a k q1 q2 q3) (by rw [up_h]; rfl) (by rw [up_o (by omega)]; exact k2) (by rw [up_o (by omega), eS]; omega) (fun i hi => ⟨?_, (eC i (by omega)).1, fun c c3 c4 => by rw [up_o (by omega)]; exact (eC i (by omega)).2 c c3 c4⟩) h7
            · rwa [show ((j + 1 : Nat) : Int) = (j : Int) + 1 by omega] at this
            · by_cases e : i = j
              · subst e; omega
              · exact (h6 i (by omega)).1
          · rw [if_neg c2] at h7
            subst h7
            refine bF c2 ?_
            exact h K hfr (fun q => absurd rfl q) ⟨Int.le_refl 0, by show (0 : Int) ≤ 10; decide⟩ ⟨by show -1 ≤ pAt s (ps s j); omega, by show pAt s (ps s j) ≤ 300; omega⟩ (fun _ => by show 0 ≤ pAt s (ps s j); omega)
      · rw [h3] at ok k1
        rw [if_neg ok] at h7
        subst h7
        refine bF k2 ?_
        rw [k1]
        exact h K (fun a k q1 q2 q3 => (oK a k q1).trans (h2 a k q1 q2 q3)) (fun q => absurd rfl q) ⟨Int.le_refl 0, by show (0 : Int) ≤ 10; decide⟩ ⟨by show -1 ≤ pAt s (ps s j); omega, by show pAt s (ps s j) ≤ 300; omega⟩ (fun _ => by show 0 ≤ pAt s (ps s j); omega)
  refine key 10 0 _ rfl (fun a k q1 q2 q3 => ?_) ?_ ?_ ?_ (fun i hi => absurd hi (Nat.not_lt_zero i)) hR
  · rw [up_o (by omega), up_o (by omega), up_o (by omega)]
  · rw [up_o (by omega), up_o (by omega), up_h]; rfl
  · rw [up_o (by omega), up_h]
  · rw [up_h]; rfl
