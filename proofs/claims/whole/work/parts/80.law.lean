/-! ===== the law, purely: every call of both answers the same ===== -/
theorem I0_heads : ∀ n : Nat, n < 10 → I0 153 n = -1 ∧ I0 155 n = -1 := by decide +kernel
theorem Inv_0 : Inv I0 := by
  have a1 : I0 158 8 = 0 := by decide +kernel
  have a2 : I0 5 1 = 0 := by decide +kernel
  have a3 : I0 158 9 = 0 := by decide +kernel
  have a4 : I0 4 3 = 0 := by decide +kernel
  have a5 : I0 36 0 = 10 ∧ I0 158 10 = 10 := by decide +kernel
  have a6 : I0 36 1 = 0 ∧ I0 158 11 = 0 ∧ I0 36 2 = 0 ∧ I0 158 12 = 0 ∧ I0 36 3 = 0 ∧ I0 158 13 = 0 := by decide +kernel
  have a7 : I0 54 4 = 50 ∧ I0 158 42 = 50 := by decide +kernel
  have a8 : I0 1 1 = 0 ∧ I0 158 15 = 0 := by decide +kernel
  have a9 : I0 44 1 = 0 ∧ I0 176 0 = 0 := by decide +kernel
  have b1 : I0 54 3 = 0 ∧ I0 158 41 = 0 := by decide +kernel
  have b2 : I0 149 4 = 0 ∧ I0 158 48 = 0 := by decide +kernel
  have b3 : I0 149 5 = I0 158 49 ∧ I0 149 6 = I0 158 50 := by decide +kernel
  refine ⟨?_, ?_, ?_, ?_, ?_, ?_, ?_⟩
  · unfold iFly
    rw [a1, a2]
    exact ⟨rfl, ⟨by decide, by decide⟩, fun i i1 i2 => by omega⟩
  · unfold iFig
    rw [a3, a4]
    exact ⟨rfl, ⟨by decide, by decide⟩, fun i i1 i2 => by omega⟩
  · unfold iAir
    rw [a5.1, a5.2, a6.1, a6.2.1, a6.2.2.1, a6.2.2.2.1, a6.2.2.2.2.1, a6.2.2.2.2.2, a7.1, a7.2]
    unfold rg
    decide
  · unfold iTape
    rw [a8.1, a8.2]
    exact ⟨rfl, ⟨by decide, by decide⟩, fun i i1 i2 => by omega⟩
  · unfold iPass
    rw [a9.1, a9.2]
    exact ⟨rfl, ⟨by decide, by decide⟩, fun q => by omega, fun i i1 i2 => by omega⟩
  · unfold iShow
    rw [b1.1, b1.2]
    exact ⟨rfl, ⟨by decide, by decide⟩, fun i i1 i2 => by omega⟩
  · unfold iMark
    rw [b2.1, b2.2]
    refine ⟨⟨rfl, ⟨by decide, by decide⟩⟩, b3, fun k k1 k2 => by omega, fun j k k1 k2 k3 => by omega, fun f f1 f2 => ?_, fun k k1 k2 => by omega⟩
    obtain ⟨n, rfl⟩ : ∃ n : Nat, f = n := ⟨f.toNat, by omega⟩
    have e := I0_heads n (by omega)
    exact ⟨Or.inl ⟨e.1, fun j j1 j2 => by omega⟩, Or.inl ⟨e.2, fun j j1 j2 => by omega⟩⟩
theorem law_pure (X : Int → Int) (LL : Int) (hX : ∀ i, rI (X i)) (h0 : 0 ≤ LL) (h1 : LL ≤ 3072) : L_law_18 X LL 0 I0 := by
  intro Y hY
  have key : ∀ (m : Nat) (v : Int) (I : sk_S), LL - v ≤ m → 0 ≤ v → v ≤ 3100 → Inv I → Y v I := by
    intro m
    induction m with
    | zero =>
      intro v I q1 q2 q3 hI
      exact hY _ _ ⟨by omega, bT (by omega) trivial⟩
    | succ m ih =>
      intro v I q1 q2 q3 hI
      by_cases q : LL - 6 < v
      · exact hY _ _ ⟨by omega, bT q trivial⟩
      · have nxt : ∀ J : sk_S, Inv J → rI (v + 6) ∧ ∀ w : Int, w = v + 6 → Y w J := fun J hJ => ⟨by omega, nm (ih (v + 6) J (by omega) (by omega) (by omega) hJ)⟩
        have fin : ∀ (r : Int) (J : sk_S), Inv J → ((r = r → rI (v + 6) ∧ ∀ w : Int, w = v + 6 → Y w J) ∧ (¬ r = r → False)) := fun r J hJ => ⟨fun _ => nxt J hJ, fun w => w rfl⟩
        have b1 : 0 ≤ v + 1 ∧ v + 1 < LL := by omega
        have b2 : 0 ≤ v + 2 ∧ v + 2 < LL := by omega
        have b3 : 0 ≤ v + 3 ∧ v + 3 < LL := by omega
        have b4 : 0 ≤ v + 4 ∧ v + 4 < LL := by omega
        have b5 : 0 ≤ v + 5 ∧ v + 5 < LL := by omega
        refine hY _ _ ⟨by omega, bF q ⟨by omega, fun _ => nxt I hI, ?_, ?_, ?_, ?_, ?_, ?_, ?_, ?_, ?_, ?_, ?_, ?_, ?_, ?_, ?_, ?_, ?_, ?_, ?_, ?_, ?_, ?_, ?_, ?_, ?_, ?_, ?_, ?_, ?_, ?_⟩⟩
        · exact fun _ => ⟨b1, b2, b3, step_flyer hI (X (v + 1)) (X (v + 2)) (X (v + 3)) (fun r I1 T => ⟨b1, b2, b3, T _ (fin r)⟩)⟩
        · exact fun _ => ⟨b1, b2, b3, step_feed hI _ (X (v + 3)) (hX _) (fun r I1 T => ⟨b1, b2, b3, T _ (fin r)⟩)⟩
        · exact fun _ => step_figure hI (fun r I1 T => T _ (fin r))
        · exact fun _ => ⟨b1, b2, b3, step_point hI (X (v + 1)) (X (v + 2)) (X (v + 3)) (fun r I1 T => ⟨b1, b2, b3, T _ (fin r)⟩)⟩
        · exact fun _ => ⟨b1, step_spread hI (X (v + 1)) (fun r I1 T => ⟨b1, T _ (fin r)⟩)⟩
        · exact fun _ => ⟨b1, step_gap hI (X (v + 1)) (fun r I1 T => ⟨b1, T _ (fin r)⟩)⟩
        · exact fun _ => ⟨b1, b2, b3, step_zone hI (X (v + 1)) (X (v + 2)) (X (v + 3)) (fun r I1 T => ⟨b1, b2, b3, T _ (fin r)⟩)⟩
        · exact fun _ => ⟨b1, b2, b3, step_pass hI (X (v + 1)) (X (v + 2)) (X (v + 3)) (fun r I1 T => ⟨b1, b2, b3, T _ (fin r)⟩)⟩
        · exact fun _ => ⟨b1, step_goes hI (X (v + 1)) (fun r I1 T => ⟨b1, T _ (fin r)⟩)⟩
        · exact fun _ => ⟨b1, b2, step_delay hI (X (v + 1)) (X (v + 2)) (fun r I1 T => ⟨b1, b2, T _ (fin r)⟩)⟩
        · exact fun _ => ⟨b1, b2, step_clash hI (X (v + 1)) (X (v + 2)) (fun r I1 T => ⟨b1, b2, T _ (fin r)⟩)⟩
        · exact fun _ => ⟨b1, step_enters hI (X (v + 1)) (fun r I1 T => ⟨b1, T _ (fin r)⟩)⟩
        · exact fun _ => step_clean hI (fun r I1 T => T _ (fin r))
        · exact fun _ => step_part hI (fun r I1 T => T _ (fin r))
        · exact fun _ => ⟨b1, b2, b3, b4, step_scene hI (X (v + 1)) (X (v + 2)) (X (v + 3)) (X (v + 4)) (fun r I1 T => ⟨b1, b2, b3, b4, T _ (fin r)⟩)⟩
        · exact fun _ => ⟨b1, b2, step_stands hI (X (v + 1)) (X (v + 2)) (fun r I1 T => ⟨b1, b2, T _ (fin r)⟩)⟩
        · exact fun _ => ⟨b1, step_lands hI (X (v + 1)) (fun r I1 T => ⟨b1, T _ (fin r)⟩)⟩
        · exact fun _ => step_length hI (fun r I1 T => T _ (fin r))
        · exact fun _ => ⟨b1, step_left hI (X (v + 1)) (fun r I1 T => ⟨b1, T _ (fin r)⟩)⟩
        · exact fun _ => step_last hI (fun r I1 T => T _ (fin r))
        · exact fun _ => ⟨b1, step_margin hI (X (v + 1)) (fun r I1 T => ⟨b1, T _ (fin r)⟩)⟩
        · exact fun _ => ⟨b1, step_colour hI (X (v + 1)) (hX _) (fun r I1 T => ⟨b1, T _ (fin r)⟩)⟩
        · exact fun _ => step_unclean hI (fun r I1 T => T _ (fin r))
        · exact fun _ => ⟨b1, b2, b3, step_fails hI (X (v + 1)) (X (v + 2)) (X (v + 3)) (fun r I1 T => ⟨b1, b2, b3, T _ (fin r)⟩)⟩
        · exact fun _ => step_cut hI (fun r I1 T => T _ (fin r))
        · exact fun _ => ⟨b1, b2, b3, b4, b5, step_mark hI (X (v + 1)) (X (v + 2)) (X (v + 3)) (X (v + 4)) (X (v + 5)) (fun r I1 T => ⟨b1, b2, b3, b4, b5, T _ (fin r)⟩)⟩
        · exact fun _ => step_first hI (fun r I1 T => T _ (fin r))
        · exact fun _ => ⟨b1, step_who hI (X (v + 1)) (fun r I1 T => ⟨b1, T _ (fin r)⟩)⟩
        · exact fun _ => step_wipe hI (fun r I1 T => T _ (fin r))
        · exact fun _ => ⟨b1, step_count hI (X (v + 1)) (fun r I1 T => ⟨b1, T _ (fin r)⟩)⟩
  exact key LL.toNat 0 I0 (by omega) (by decide) (by decide) Inv_0
