/-! ===== pure: Row.fill ===== -/
theorem s_Row_fill {a v : Int} {Q : sk_S → Prop} {I : sk_S} (hk : kd a = 7) (h : ∀ I' : sk_S, (∀ b j, I' b j = if b = a + 1 ∧ 0 ≤ j ∧ j < ln (a + 1) then v else I b j) → Q I') : M_Row_fill a v Q I := by
  unfold M_Row_fill L_Row_fill_2
  intro X hX
  have hr := ln_r (a + 1)
  have key : ∀ (n : Nat) (i : Int) (J : sk_S), 0 ≤ i → i + n = ln (a + 1) → (∀ b j, J b j = if b = a + 1 ∧ 0 ≤ j ∧ j < i then v else I b j) → X i J := by
    intro n
    induction n with
    | zero =>
      intro i J h0 hi hJ
      refine hX i J ⟨fun _ => h J (fun b j => ?_), fun q => absurd (by omega) q⟩
      rw [hJ, show i = ln (a + 1) by omega]
    | succ n ih =>
      intro i J h0 hi hJ
      refine hX i J ⟨fun q => absurd q (by omega), fun q => ⟨⟨h0, by omega⟩, ⟨by omega, by omega⟩, fun i' e => ?_⟩⟩
      subst e
      refine ih (i + 1) _ (by omega) (by omega) (fun b j => ?_)
      unfold up
      by_cases e : b = a + 1 ∧ j = i
      · rw [if_pos e, if_pos ⟨e.1, by omega, by omega⟩]
      · rw [if_neg e, hJ]
        by_cases e2 : b = a + 1 ∧ 0 ≤ j ∧ j < i
        · rw [if_pos e2, if_pos ⟨e2.1, e2.2.1, by omega⟩]
        · rw [if_neg e2, if_neg (by omega)]
  exact key (ln (a + 1)).toNat 0 I (Int.le_refl _) (by omega) (fun b j => by rw [if_neg (by omega)])
