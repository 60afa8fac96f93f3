/-! ===== point, spread, wipe ===== -/
theorem s_Places_has {p x : Int} {Q : Int → sk_S → Prop} {I : sk_S} (h1 : 0 ≤ x ∧ x < I p 1 → Q 1 I) (h0 : ¬ (0 ≤ x ∧ x < I p 1) → Q 0 I) : M_Places_has p x Q I :=
  ⟨fun q => h0 (by omega), fun q => ⟨fun r => h0 (by omega), fun r => h1 (by omega)⟩⟩
theorem least_near {I : sk_S} (h : Inv I) {f : Int} (hf : -1 ≤ f ∧ f < I 4 3) : ∀ i j : Int, 0 ≤ i → i < j → j < I (pa f) 1 → near400 I (pa f) (pa f) i j := fun i j a b c => near_of h hf hf (by omega) (by omega)
theorem step_spread {I : sk_S} (h : Inv I) (x : Int) {Q : Int → sk_S → Prop} (hQ : ∀ r I1, Two (M_Mo_spread x) r I1 → Q r I1) : M_Sky_spread x Q I := by
  have ht := pic_top h
  have e9 := h.2.1.1
  refine s_Gallery_has (fun q => z1 ?_) (fun q => z0 (hQ _ _ fun K hK => ?_))
  · refine s_Gallery_at (by omega) ?_
    have ep : pa x = 12 + 3 * x := pa_f q.1
    have hs := pic_size h (f := x) (by omega)
    refine ⟨fun c => s_Gallery_at (by omega) ?_, fun c => hQ _ _ fun K hK => ?_⟩
    · refine s_leastWay (kd_pa (by omega)) hs.2 (least_near h (by omega)) (fun m hm => hQ _ _ fun K hK => ?_)
      refine s_isFigure (fun _ => z1 (s_least h q (fun m' hm' => ?_))) (fun p => absurd (by omega) p)
      rw [ep] at hm c
      refine Ok.use hK ⟨?_, h⟩
      rcases hm with hm | hm
      · omega
      · rcases hm' with hm' | hm'
        · omega
        · exact hm.1.one hm'.1
    · refine s_isFigure (fun _ => z1 (s_least h q (fun m' hm' => ?_))) (fun p => absurd (by omega) p)
      rw [ep] at c
      refine Ok.use hK ⟨?_, h⟩
      rcases hm' with hm' | hm'
      · exact hm'.1.symm
      · obtain ⟨i, j, a, b, d, _⟩ := hm'.1.2
        omega
  · exact s_isFigure (fun p => absurd (by omega) q) (fun p => z0 (Ok.use hK ⟨rfl, h⟩))
theorem step_point {I : sk_S} (h : Inv I) (x y z : Int) {Q : Int → sk_S → Prop} (hQ : ∀ r I1, Two (M_Mo_point_ x y z) r I1 → Q r I1) : M_Sky_point x y z Q I := by
  have ht := pic_top h
  have e9 := h.2.1.1
  have eg := h.2.2.1.1
  unfold rg at eg
  refine s_Gallery_has (fun q => n1 ?_) (fun q => n0 (hQ _ _ fun K hK => ?_))
  · refine s_Gallery_at (by omega) ?_
    have ep : pa x = 12 + 3 * x := pa_f q.1
    have hs := pic_size h (f := x) (by omega)
    obtain ⟨g1, g2, g3⟩ := h.2.1.2.2 x q.1 q.2
    rw [ep] at hs
    rw [ep]
    -- the reference's beginning
    have mo : ∀ (K : Int → sk_S → Prop), (-1 ≤ y ∧ y ≤ I 162 x - 1 → ((0 ≤ y → rI ((10 * x) + y) ∧ ∀ v4_96, v4_96 = (10 * x) + y → (((z < 0 ∨ 3 < z) → K ((-1000)) I) ∧ (z = 0 → ((0 : Int) ≤ v4_96 ∧ (v4_96 : Int) < 80) ∧ K (I 163 v4_96) I) ∧ (z = 1 → ((0 : Int) ≤ v4_96 ∧ (v4_96 : Int) < 80) ∧ K (I 164 v4_96) I) ∧ (z = 2 → ((0 : Int) ≤ v4_96 ∧ (v4_96 : Int) < 80) ∧ K (I 165 v4_96) I) ∧ (z = 3 → ((0 : Int) ≤ v4_96 ∧ (v4_96 : Int) < 80) ∧ K (I 166 v4_96) I))) ∧ (¬ 0 ≤ y → ((¬ z = 0 → M_Mo_least x (fun r_49 I_49 => ((¬ z = 1 → K ((-1000)) I_49) ∧ (z = 1 → ((r_49 < 0 → K 1 I_49) ∧ (¬ r_49 < 0 → rI ((I_49 158 10) * (I_49 158 10)) ∧ ((r_49 < (I_49 158 10) * (I_49 158 10) → K 0 I_49) ∧ (¬ r_49 < (I_49 158 10) * (I_49 158 10) → K 1 I_49))))))) I) ∧ (z = 0 → ((0 : Int) ≤ x ∧ (x : Int) < 8) ∧ K (I 162 x) I))))) → (¬ (-1 ≤ y ∧ y ≤ I 162 x - 1) → K (-1000) I) → M_Mo_point_ x y z K I := fun K k1 k0 =>
      s_isFigure (fun _ => z1 ⟨by omega, by omega, s_isIn (fun c => n1 (k1 c)) (fun c => n0 (k0 c))⟩) (fun p => absurd (by omega) p)
    have j63 : ¬ (y = -1 ∧ (z = 0 ∨ z = 1)) → J_Sky_point_63 y z (12 + 3 * x) Q I := by
      intro ny
      refine s_Places_has (fun c => z1 ?_) (fun c => z0 (hQ _ _ fun K hK => ?_))
      · have hz : (0 ≤ z ∧ z ≤ 3) ∨ ¬ (0 ≤ z ∧ z ≤ 3) := by omega
        rcases hz with hz | hz
        · refine s_isWithin (fun _ => z1 ⟨by omega, s_Row_at ?_ (hQ _ _ fun K hK => ?_)⟩) (fun p => absurd hz p)
          · rw [show 12 + 3 * x + 1 + 1 = (12 + 3 * x) + 2 by omega, ln5 (kd_fig (by omega))]; omega
          · rw [show 12 + 3 * x + 1 + 1 = 14 + 3 * x by omega] at hK
            obtain ⟨b, -⟩ := g3 y c.1 c.2
            refine mo K (fun _ => ⟨fun _ => ⟨by omega, nm ⟨fun r => by omega, fun r => ?_, fun r => ?_, fun r => ?_, fun r => ?_⟩⟩, fun r => absurd c.1 r⟩) (fun r => absurd (by omega) r)
            · subst r; exact ⟨by omega, Ok.use hK ⟨b.1, h⟩⟩
            · subst r; exact ⟨by omega, Ok.use hK ⟨b.2.1, h⟩⟩
            · subst r; exact ⟨by omega, Ok.use hK ⟨b.2.2.1, h⟩⟩
            · subst r; exact ⟨by omega, Ok.use hK ⟨b.2.2.2, h⟩⟩
        · refine s_isWithin (fun p => absurd p hz) (fun _ => z0 (hQ _ _ fun K hK => ?_))
          exact mo K (fun _ => ⟨fun _ => ⟨by omega, nm ⟨fun r => Ok.use hK ⟨rfl, h⟩, fun r => by omega, fun r => by omega, fun r => by omega, fun r => by omega⟩⟩, fun r => absurd c.1 r⟩) (fun r => absurd (by omega) r)
      · refine mo K (fun c2 => ⟨fun c3 => absurd ⟨c3, by omega⟩ c, fun c3 => ⟨fun c4 => ?_, fun c4 => absurd ⟨by omega, Or.inl c4⟩ ny⟩⟩) (fun _ => Ok.use hK ⟨rfl, h⟩)
        refine s_least h q (fun m _ => ⟨fun _ => Ok.use hK ⟨rfl, h⟩, fun c5 => absurd ⟨by omega, Or.inr c5⟩ ny⟩)
    have j40 : ¬ (y = -1 ∧ z = 0) → J_Sky_point_40 y z (12 + 3 * x) Q I := by
      intro ny
      refine ⟨fun c => j63 (fun r => c r.1), fun c => ⟨fun c2 => j63 (fun r => by omega), fun c2 => ?_⟩⟩
      have hsq := sq_le (x := I 36 0) (B := 100) (by omega) (by omega)
      refine s_leastWay (kd_fig (by omega)) hs.2 (by have := least_near h (f := x) (by omega); rwa [ep] at this) (fun m hm => ⟨by omega, ?_⟩)
      have fin : ∀ r : Int, (r = 0 ∨ r = 1) → (r = 0 ↔ m < I 36 0 * I 36 0) → M_Sky_bit r (fun r_59 I_59 => Q r_59 I_59) I := by
        intro r hr hb
        refine s_bit hr (hQ _ _ fun K hK => ?_)
        refine mo K (fun c3 => ⟨fun c4 => by omega, fun c4 => ⟨fun c5 => s_least h q (fun m' hm' => ⟨fun c6 => absurd c2 c6, fun _ => ⟨fun c7 => ?_, fun c7 => ⟨by rw [← eg.1]; omega, fun c8 => ?_, fun c8 => ?_⟩⟩⟩), fun c5 => by omega⟩⟩) (fun r => absurd (by omega) r)
        · rcases hm' with hm' | hm'
          · rcases hm with hm | hm
            · exact Ok.use hK ⟨by omega, h⟩
            · obtain ⟨i, j, a, b, d, _⟩ := hm.1.2
              omega
          · omega
        · rw [← eg.1] at c8
          rcases hm' with hm' | hm'
          · omega
          · rcases hm with hm | hm
            · obtain ⟨i, j, a, b, d, _⟩ := hm'.1.2
              omega
            · have := hm.1.one hm'.1
              exact Ok.use hK ⟨by omega, h⟩
        · rw [← eg.1] at c8
          rcases hm' with hm' | hm'
          · omega
          · rcases hm with hm | hm
            · obtain ⟨i, j, a, b, d, _⟩ := hm'.1.2
              omega
            · have := hm.1.one hm'.1
              exact Ok.use hK ⟨by omega, h⟩
      exact ⟨fun c3 => fin 0 (Or.inl rfl) ⟨fun _ => c3, fun _ => rfl⟩, fun c3 => fin 1 (Or.inr rfl) ⟨fun r => by omega, fun r => absurd r c3⟩⟩
    refine ⟨fun c => j40 (fun r => c r.1), fun c => ⟨fun c2 => j40 (fun r => c2 r.2), fun c2 => hQ _ _ fun K hK => ?_⟩⟩
    exact mo K (fun c3 => ⟨fun c4 => by omega, fun c4 => ⟨fun c5 => absurd c2 c5, fun c5 => ⟨by omega, Ok.use hK ⟨g1.symm, h⟩⟩⟩⟩) (fun r => absurd (by unfold rg at g2; omega) r)
  · exact s_isFigure (fun p => absurd (by omega) q) (fun p => z0 (Ok.use hK ⟨rfl, h⟩))
