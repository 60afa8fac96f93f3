/-! ===== fails ===== -/
def wS (I : sk_S) (s f : Int) : Int := I 166 (10 * I 185 s + I 189 (10 * s + f))
theorem wS_eq {I : sk_S} (h : Inv I) {s f : Int} (hs : 0 ≤ s ∧ s < I 54 3) (hf : 0 ≤ f ∧ f < I 5 1) : I (14 + 3 * I (65 + 7 * s) 2) (sa I (s + 1) f * 4 + 3) = wS I s f ∧ 0 ≤ wS I s f ∧ wS I s f ≤ 9 := by
  have k := (sc_at h hs).1.1
  have r := sa_end h hs hf
  have g := (h.2.1.2.2 (I (65 + 7 * s) 2) k.2.1 k.2.2.1).2.2 (sa I (s + 1) f) r.1 (by rw [k.2.2.2]; exact r.2)
  have g1 := g.1.2.2.2
  have g2 := g.2.2.2.2
  rw [k.1, sa_succ I hs.1] at g1 g2
  rw [k.1, sa_succ I hs.1]
  unfold rg at g2
  exact ⟨g1, g2⟩
theorem s_worth {s f : Int} {Q : Int → sk_S → Prop} {I : sk_S} (h : Inv I) (hs : 0 ≤ s ∧ s < I 54 3) (hf : 0 ≤ f ∧ f < I 5 1) (hQ : Q (wS I s f) I) : M_Sky_worth f s Q I := by
  have ht := show_top h
  have hp := pic_top h
  have hl := fly_top h
  have k := (sc_at h hs).1.1
  have r := sa_end h hs hf
  refine s_Show_at (by omega) (s_Gallery_at (by omega) (s_Show_place h hf hs ⟨by omega, s_Row_at ?_ ?_⟩))
  · rw [pa_f k.2.1, show 12 + 3 * I (65 + 7 * s) 2 + 1 + 1 = (12 + 3 * I (65 + 7 * s) 2) + 2 by omega, ln5 (kd_fig (by omega))]
    omega
  · rw [pa_f k.2.1, show 12 + 3 * I (65 + 7 * s) 2 + 1 + 1 = 14 + 3 * I (65 + 7 * s) 2 by omega, (wS_eq h hs hf).1]
    exact hQ
theorem s_worthAt {s f : Int} {Q : Int → sk_S → Prop} {I : sk_S} (h : Inv I) (hs : 0 ≤ s ∧ s < I 54 3) (hf : 0 ≤ f ∧ f < I 5 1) (hQ : Q (wS I s f) I) : M_Mo_worthAt f s Q I := by
  have ht := show_top h
  have hp := pic_top h
  have hl := fly_top h
  have k := (sc_at h hs).1.1
  have r := sa_end h hs hf
  rw [sa_succ I hs.1] at r
  exact ⟨by omega, by omega, by omega, hQ⟩
def fl (W : Int → Int) (f : Int) : Nat → Int × Int
  | 0 => (W f, -2)
  | k + 1 => if W k < (fl W f k).1 then (W k, (k : Int)) else fl W f k
theorem fl_le (W : Int → Int) (f : Int) : ∀ k : Nat, (fl W f k).1 ≤ W f := by
  intro k
  induction k with
  | zero => exact Int.le_refl _
  | succ k ih =>
    unfold fl
    split
    · show W k ≤ W f; omega
    · exact ih
theorem step_fails {I : sk_S} (h : Inv I) (x y z : Int) {Q : Int → sk_S → Prop} (hQ : ∀ r I1, Two (M_Mo_fails x y z) r I1 → Q r I1) : M_Sky_fails x y z Q I := by
  have hl := fly_top h
  have ht := show_top h
  have e8 := h.1.1
  have es := h.2.2.2.2.2.1.1
  by_cases qx : 0 ≤ x ∧ x < I 5 1
  · refine s_isFlyer (fun _ => z1 ?_) (fun p => absurd qx p)
    by_cases qy : 0 ≤ y ∧ y < I 54 3
    · refine s_Show_has (fun _ => z1 ?_) (fun p => absurd qy p)
      have mo : ∀ K : Int → sk_S → Prop, M_Mo_isIn z 0 1 (fun r_20 I_20 => ((¬ r_20 = 0 → M_Mo_worthAt x y (fun r_31 I_31 => L_Mo_fails_43 x y z K r_31 ((-2)) 0 I_31) I_20) ∧ (r_20 = 0 → K ((-1)) I_20))) I → M_Mo_fails x y z K I := fun K k =>
        s_Mo_isFlyer (fun _ => z1 (s_isScene (fun _ => z1 k) (fun p => absurd (by omega) p))) (fun p => absurd (by omega) p)
      by_cases qz : 0 ≤ z ∧ z ≤ 1
      · refine s_isWithin (fun _ => n1 (s_worth h qy qx ?_)) (fun p => absurd qz p)
        intro X hX
        have key : ∀ m k : Nat, (m : Int) + k = I 5 1 → X (fl (wS I y) x k).2 (fl (wS I y) x k).1 k I := by
          intro m
          induction m with
          | zero =>
            intro k hk
            have fin : ∀ r : Int, r = (if z = 0 then (fl (wS I y) x k).1 else (fl (wS I y) x k).2) → Q r I := by
              intro r hr
              refine hQ _ _ fun K hK => mo K (s_isIn (fun _ => n1 (s_worthAt h qy qx ?_)) (fun p => absurd qz p))
              intro Y hY
              have key2 : ∀ m j : Nat, (m : Int) + j = I 5 1 → Y (fl (wS I y) x j).1 (fl (wS I y) x j).2 j I := by
                intro m
                induction m with
                | zero =>
                  intro j hj
                  obtain rfl : j = k := by omega
                  refine hY _ _ _ _ (bT (by omega) ⟨fun q => ?_, fun q => ?_⟩)
                  · rw [if_neg q] at hr; exact Ok.use hK ⟨hr, h⟩
                  · rw [if_pos q] at hr; exact Ok.use hK ⟨hr, h⟩
                | succ m ih =>
                  intro j hj
                  have nx := ih (j + 1) (by omega)
                  have e : fl (wS I y) x (j + 1) = if wS I y j < (fl (wS I y) x j).1 then (wS I y j, (j : Int)) else fl (wS I y) x j := rfl
                  have le := fl_le (wS I y) x j
                  refine hY _ _ _ _ (bF (by omega) ⟨fun q => ⟨by omega, nm ?_⟩, fun q => s_worthAt h qy ⟨by omega, by omega⟩ ⟨fun c => s_worthAt h qy ⟨by omega, by omega⟩ ⟨by omega, nm ?_⟩, fun c => ⟨by omega, nm ?_⟩⟩⟩)
                  · rw [if_neg (by rw [q]; omega)] at e
                    rw [← e]; exact nx
                  · rw [if_pos c] at e
                    rw [e] at nx; exact nx
                  · rw [if_neg c] at e
                    rw [← e]; exact nx
              exact key2 (I 5 1).toNat 0 (by omega)
            refine hX _ _ _ _ (s_flyers (bT (by omega) ⟨fun q => fin _ (by rw [if_neg q]), fun q => fin _ (by rw [if_pos q])⟩))
          | succ m ih =>
            intro k hk
            have nx := ih (k + 1) (by omega)
            have e : fl (wS I y) x (k + 1) = if wS I y k < (fl (wS I y) x k).1 then (wS I y k, (k : Int)) else fl (wS I y) x k := rfl
            refine hX _ _ _ _ (s_flyers (bF (by omega) (s_worth h qy ⟨by omega, by omega⟩ ⟨fun c => ⟨by omega, nm ?_⟩, fun c => ⟨by omega, nm ?_⟩⟩)))
            · rw [if_neg (by omega)] at e
              rw [← e]; exact nx
            · rw [if_pos (by omega)] at e
              rw [e] at nx; exact nx
        exact key (I 5 1).toNat 0 (by omega)
      · refine s_isWithin (fun p => absurd p qz) (fun _ => n0 (hQ _ _ fun K hK => mo K ?_))
        exact s_isIn (fun p => absurd p qz) (fun _ => n0 (Ok.use hK ⟨rfl, h⟩))
    · refine s_Show_has (fun p => absurd p qy) (fun _ => z0 (hQ _ _ fun K hK => ?_))
      exact s_Mo_isFlyer (fun _ => z1 (s_isScene (fun p => absurd (by omega) qy) (fun _ => z0 (Ok.use hK ⟨rfl, h⟩)))) (fun p => absurd (by omega) p)
  · refine s_isFlyer (fun p => absurd p qx) (fun _ => z0 (hQ _ _ fun K hK => ?_))
    exact s_Mo_isFlyer (fun p => absurd (by omega) qx) (fun _ => z0 (Ok.use hK ⟨rfl, h⟩))
