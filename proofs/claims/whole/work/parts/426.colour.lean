/-! ===== colour ===== -/
theorem mul_rg {a r A R : Int} (ha : -A ≤ a ∧ a ≤ A) (hr : 0 ≤ r ∧ r ≤ R) : -(A * R) ≤ a * r ∧ a * r ≤ A * R := by
  have h : (a * r).natAbs ≤ A.toNat * R.toNat := by
    rw [Int.natAbs_mul]
    exact Nat.mul_le_mul (by omega) (by omega)
  have e : (A.toNat * R.toNat : Nat) = A * R := by
    rw [show A = (A.toNat : Int) by omega, show R = (R.toNat : Int) by omega]
    simp
  omega
theorem idiv_eq {a b : Int} (ha : -1000000 ≤ a ∧ a ≤ 1000000) (hb : 1 ≤ b ∧ b ≤ 30) : idiv a b = a.tdiv b ∧ -1000000 ≤ a.tdiv b ∧ a.tdiv b ≤ 1000000 := by
  have h := Int.natAbs_tdiv_le_natAbs a b
  unfold idiv
  rw [Int32.toInt_div, iI_toInt (by omega), iI_toInt (by omega)]
  refine ⟨?_, by omega, by omega⟩
  exact Int.bmod_eq_of_le (by omega) (by omega)
theorem idiv_mul {a b : Int} (ha : -255 ≤ a ∧ a ≤ 255) (hb : 1 ≤ b ∧ b ≤ 30) : idiv (a * b) b = a := by
  have m := mul_rg (r := b) (R := 30) ha (by omega)
  rw [(idiv_eq (by omega) hb).1, Int.mul_tdiv_cancel _ (by omega)]
def cueA (I : sk_S) (k : Nat) : Int := if k = 0 then 0 else I 188 ((k : Int) - 1)
theorem cueA_rg {I : sk_S} (h : Inv I) {k : Nat} (hk : (k : Int) ≤ I 54 3) : 0 ≤ cueA I k ∧ cueA I k ≤ 255 := by
  unfold cueA
  split
  · decide
  · have := (sc_at h (s := (k : Int) - 1) ⟨by omega, by omega⟩).1.2.2.2.2
    exact this
theorem step_colour {I : sk_S} (h : Inv I) (x : Int) (hx : rI x) {Q : Int → sk_S → Prop} (hQ : ∀ r I1, Two (M_Mo_colour x) r I1 → Q r I1) : M_Sky_colour x Q I := by
  have ht := show_top h
  have es := h.2.2.2.2.2.1.1
  have hr := slen_rg h
  by_cases c : I 54 3 ≤ 0
  · exact bT c (hQ _ _ fun K hK => bT (by omega) (Ok.use hK ⟨rfl, h⟩))
  · refine bF c (s_Show_ticks h ?_)
    by_cases q : 0 ≤ x ∧ x ≤ slen I
    · refine s_isWithin (fun _ => z1 ?_) (fun p => absurd q p)
      -- the reference answers the same from any scene on
      have mo : ∀ K : Int → sk_S → Prop, L_Mo_colour_30 x K 0 0 0 I → M_Mo_colour x K I := fun K k =>
        bF (by omega) (s_Mo_length h (s_isIn (fun _ => n1 k) (fun p => absurd q p)))
      -- the answer, from the scene k on
      intro X hX
      have key : ∀ m k : Nat, (m : Int) + k = I 54 3 → (∀ r : Int, (∀ K : Int → sk_S → Prop, (∀ J, Inv J → K r J) → L_Mo_colour_30 x K (tsum I k) (cueA I k) k I) → Q r I) → (tsum I k < x ∨ k = 0) → X (x - tsum I k) (cueA I k) k I := by
        intro m
        induction m with
        | zero =>
          intro k hk hq hlt
          have ek : (k : Int) = I 54 3 := by omega
          have cr := cueA_rg h (k := k) (by omega)
          have b := (sc_at h (s := I 54 3 - 1) ⟨by omega, by omega⟩).1.2.1
          have b2 := b.2.2
          unfold rg at b2
          have hsl : slen I = tsum I k + I 186 (I 54 3 - 1) := by unfold slen; rw [if_neg (by omega), ← ek, Int.toNat_natCast]
          have m1 := mul_rg (a := cueA I k) (r := x - tsum I k) (A := 255) (R := 30) (by omega) (by omega)
          have d1 := idiv_eq (a := cueA I k * (x - tsum I k)) (b := I 186 (I 54 3 - 1)) (by omega) b2
          have d2 : idiv ((0 - cueA I k) * (x - tsum I k)) (I 186 (I 54 3 - 1)) = -(cueA I k * (x - tsum I k)).tdiv (I 186 (I 54 3 - 1)) := by
            rw [show (0 - cueA I k) * (x - tsum I k) = -(cueA I k * (x - tsum I k)) by rw [Int.zero_sub, Int.neg_mul]]
            rw [(idiv_eq (by omega) b2).1, Int.neg_tdiv]
          refine hX _ _ _ _ (bT (by omega) ⟨by omega, s_Show_at (by omega) ?_⟩)
          show M_Show_fade (cueA I k) 0 (x - tsum I k) (I (65 + 7 * (I 54 3 - 1) + 4) 2) (fun r_109 I_109 => Q r_109 I_109) I
          rw [show 65 + 7 * (I 54 3 - 1) + 4 = 69 + 7 * (I 54 3 - 1) by omega, b.2.1]
          refine bF (by omega) ⟨by omega, by rw [d2]; omega, hq _ fun K hK => ?_⟩
          intro Y hY
          refine hY _ _ _ _ (bT (by omega) ?_)
          show ((0 : Int) ≤ (I 158 41) - 1 ∧ ((I 158 41) - 1 : Int) < 12) ∧ ¬ (I 186 ((I 158 41) - 1)) = 0 ∧ rI (cueA I k - (idiv (cueA I k * (x - tsum I k)) (I 186 ((I 158 41) - 1)))) ∧ K (cueA I k - (idiv (cueA I k * (x - tsum I k)) (I 186 ((I 158 41) - 1)))) I
          rw [← es, d1.1]
          refine ⟨by omega, by omega, by omega, Ok.use hK ⟨?_, h⟩⟩
          rw [d2]; omega
        | succ m ih =>
          intro k hk hq hlt
          have cr := cueA_rg h (k := k) (by omega)
          have ts := tsum_rg h k (by omega)
          have b := (sc_at h (s := k) ⟨by omega, by omega⟩).1
          have b1 := b.2.1
          have b2 := b1.2.2
          have b3 := b.2.2.1
          have b4 := b3.2
          have b5 := b.2.2.2
          have b6 := b5.2
          unfold rg at b2 b4 b6
          have e : tsum I (k + 1) = tsum I k + (I 186 k + I 187 k) := rfl
          have ec : cueA I (k + 1) = I 188 k := by
            unfold cueA
            rw [if_neg (by omega), show ((k + 1 : Nat) : Int) - 1 = k by omega]
          refine hX _ _ _ _ (bF (by omega) (s_Show_at (by omega) ?_))
          show ((I (65 + 7 * (k : Int) + 1) 2 < x - tsum I k → M_Scene_ticks (65 + 7 * (k : Int)) _ I) ∧ (¬ I (65 + 7 * (k : Int) + 1) 2 < x - tsum I k → M_Show_fade (cueA I k) (I (65 + 7 * (k : Int)) 4) (x - tsum I k) (I (65 + 7 * (k : Int) + 1) 2) (fun r_51 I_51 => Q r_51 I_51) I))
          have e66 : I (65 + 7 * (k : Int) + 1) 2 = I 186 k := by rw [show 65 + 7 * (k : Int) + 1 = 66 + 7 * k by omega]; exact b1.1
          -- how the reference goes through a scene
          have st : ∀ (K : Int → sk_S → Prop), (I 186 k ≤ x - tsum I k → tsum I (k + 1) < x → L_Mo_colour_30 x K (tsum I (k + 1)) (cueA I (k + 1)) (k + 1 : Nat) I) → (I 186 k ≤ x - tsum I k → ¬ tsum I (k + 1) < x → K (I 188 k) I) → (¬ I 186 k ≤ x - tsum I k → K (cueA I k + idiv ((I 188 k - cueA I k) * (x - tsum I k)) (I 186 k)) I) → L_Mo_colour_30 x K (tsum I k) (cueA I k) k I := by
            intro K k1 k2 k3 Y hY
            have m1 : ¬ I 186 k ≤ x - tsum I k → rI (cueA I k + idiv ((I 188 k - cueA I k) * (x - tsum I k)) (I 186 k)) := fun p => by
              have m1 := mul_rg (a := I 188 k - cueA I k) (r := x - tsum I k) (A := 255) (R := 30) (by omega) (by omega)
              have d1 := idiv_eq (a := (I 188 k - cueA I k) * (x - tsum I k)) (b := I 186 k) (by omega) b2
              omega
            refine hY _ _ _ _ (bF (by omega) ⟨by omega, nm ⟨by omega, fun p => ⟨by omega, nm ⟨by omega, by omega, by omega, nm ⟨fun p2 => ⟨by omega, nm ?_⟩, fun p2 => k2 p (by omega)⟩⟩⟩, fun p => ⟨by omega, by omega, by omega, m1 p, k3 p⟩⟩⟩)
            have := k1 p (by omega) Y hY
            rw [e, ec] at this
            exact this
          refine ⟨fun p => ?_, fun p => ?_⟩
          · rw [e66] at p
            have w : ∀ R : Int → sk_S → Prop, R (I 186 k + I 187 k) I → M_Scene_ticks (65 + 7 * (k : Int)) R I := fun R hR => by
              show rI (I (65 + 7 * (k : Int) + 1) 2 + I (65 + 7 * (k : Int)) 3) ∧ R (I (65 + 7 * (k : Int) + 1) 2 + I (65 + 7 * (k : Int)) 3) I
              rw [e66, b3.1]
              exact ⟨by omega, hR⟩
            refine w _ ⟨fun p2 => w _ ⟨by omega, nm (nm ⟨by omega, nm ?_⟩)⟩, fun p2 => hq _ fun K hK => st K (fun _ q2 => by omega) (fun _ _ => Ok.use hK ⟨b5.1, h⟩) (fun q2 => by omega)⟩
            have := ih (k + 1) (by omega) (fun r hr => hq r fun K hK => st K (fun _ _ => hr K hK) (fun _ q2 => by omega) (fun q2 => by omega)) (Or.inl (by omega))
            rw [e, ec] at this
            rw [b5.1, show x - tsum I k - (I 186 k + I 187 k) = x - (tsum I k + (I 186 k + I 187 k)) by omega]
            exact this
          · rw [e66] at p
            rw [e66, b5.1]
            have m1 := mul_rg (a := I 188 k - cueA I k) (r := x - tsum I k) (A := 255) (R := 30) (by omega) (by omega)
            have d1 := idiv_eq (a := (I 188 k - cueA I k) * (x - tsum I k)) (b := I 186 k) (by omega) b2
            refine bF (by omega) ⟨by omega, by omega, hq _ fun K hK => st K (fun q1 q2 => by omega) (fun q1 _ => ?_) (fun _ => Ok.use hK ⟨rfl, h⟩)⟩
            have ex : x - tsum I k = I 186 k := by omega
            rw [ex, idiv_mul (by omega) b2] at hK
            exact Ok.use hK ⟨by omega, h⟩
      have := key (I 54 3).toNat 0 (by omega) (fun r hr => hQ r I fun K hK => mo K (hr K hK)) (Or.inr rfl)
      rw [show x - tsum I 0 = x from Int.sub_zero x] at this
      exact this
    · refine s_isWithin (fun p => absurd p q) (fun _ => z0 (hQ _ _ fun K hK => ?_))
      exact bF (by omega) (s_Mo_length h (s_isIn (fun p => absurd p q) (fun _ => n0 (Ok.use hK ⟨rfl, h⟩))))
