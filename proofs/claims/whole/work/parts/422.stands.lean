/-! ===== stands, length ===== -/
theorem sc_at {I : sk_S} (h : Inv I) {s : Int} (hs : 0 ≤ s ∧ s < I 54 3) : ((I (65 + 7 * s) 2 = I 185 s ∧ 0 ≤ I (65 + 7 * s) 2 ∧ I (65 + 7 * s) 2 < I 4 3 ∧ I (12 + 3 * I (65 + 7 * s) 2) 1 = I 5 1) ∧ (I (66 + 7 * s) 2 = I 186 s ∧ I (69 + 7 * s) 2 = I 186 s ∧ rg 1 30 (I 186 s)) ∧ (I (65 + 7 * s) 3 = I 187 s ∧ rg 0 100 (I 187 s)) ∧ I (65 + 7 * s) 4 = I 188 s ∧ rg 0 255 (I 188 s)) ∧
  isPs I (66 + 7 * s) (pr I s) (I (65 + 7 * s) 2) (I 5 1) ∧ isPs I (69 + 7 * s) (I (65 + 7 * s) 2) (-1) (I 5 1) ∧
  ∀ f : Int, 0 ≤ f → f < I 5 1 → (0 ≤ sa I s f ∧ sa I s f < I 5 1) ∧ I 189 (10 * s + f) = gl I (pr I s) (I (65 + 7 * s) 2) (I 5 1) (sa I s f) := h.2.2.2.2.2.1.2.2 s hs.1 hs.2
theorem sa_rg {I : sk_S} (h : Inv I) {s f : Int} (hs : 0 ≤ s ∧ s < I 54 3) (hf : 0 ≤ f ∧ f < I 5 1) : 0 ≤ sa I s f ∧ sa I s f < I 5 1 := ((sc_at h hs).2.2.2 f hf.1 hf.2).1
theorem sa_succ (I : sk_S) {s f : Int} (hs : 0 ≤ s) : sa I (s + 1) f = I 189 (10 * s + f) := by
  unfold sa
  rw [if_neg (by omega), show s + 1 - 1 = s by omega]
theorem sc_goal {I : sk_S} (h : Inv I) {s f : Int} (hs : 0 ≤ s ∧ s < I 54 3) (hf : 0 ≤ f ∧ f < I 5 1) : I (68 + 7 * s) (sa I s f * 8 + 6) = sa I (s + 1) f := by
  have k := sc_at h hs
  have r := sa_rg h hs hf
  have g := (k.2.1.2 (sa I s f) r.1 r.2).1.1
  rw [show 66 + 7 * s + 2 = 68 + 7 * s by omega] at g
  rw [g, sa_succ I hs.1]
  exact (k.2.2.2 f hf.1 hf.2).2.symm
theorem sa_end {I : sk_S} (h : Inv I) {s f : Int} (hs : 0 ≤ s ∧ s < I 54 3) (hf : 0 ≤ f ∧ f < I 5 1) : 0 ≤ sa I (s + 1) f ∧ sa I (s + 1) f < I 5 1 := by
  have k := sc_at h hs
  have r := sa_rg h hs hf
  have g := (k.2.1.2 (sa I s f) r.1 r.2).1
  have := (k.2.2.2 f hf.1 hf.2).2
  rw [sa_succ I hs.1, this]
  exact g.2
theorem s_Pass_goal {p i : Int} {Q : Int → sk_S → Prop} {I : sk_S} (hp : kd p = 4) (hi : 0 ≤ i ∧ i < 10) (h : Q (I (p + 2) (i * 8 + 6)) I) : M_Pass_goal p i Q I := by
  have l : ln (p + 1 + 1) = 80 := by rw [show p + 1 + 1 = p + 2 by omega]; exact ln4 hp
  refine ⟨by omega, s_Row_at (by rw [l]; omega) ?_⟩
  rw [show p + 1 + 1 = p + 2 by omega]
  exact h
theorem s_Show_place {f v : Int} {Q : Int → sk_S → Prop} {I : sk_S} (h : Inv I) (hf : 0 ≤ f ∧ f < I 5 1) (hv : 0 ≤ v ∧ v < I 54 3) (hQ : Q (sa I (v + 1) f) I) : M_Show_place f v Q I := by
  have ht := show_top h
  have hl := fly_top h
  intro X hX
  have key : ∀ (m : Nat) (s : Int), s + m = v + 1 → 0 ≤ s → X (sa I s f) s I := by
    intro m
    induction m with
    | zero =>
      intro s h1 h2
      obtain rfl : s = v + 1 := by omega
      exact hX _ _ _ (bT (by omega) hQ)
    | succ m ih =>
      intro s h1 h2
      have r := sa_rg h (s := s) ⟨h2, by omega⟩ hf
      have g := sc_goal h (s := s) ⟨h2, by omega⟩ hf
      refine hX _ _ _ (bF (by omega) (bF (by omega) (s_Show_at (by omega) (s_Pass_goal (k8 (kd_scn (by omega))).1 (by omega) ⟨by omega, nm ?_⟩))))
      rw [show 65 + 7 * s + 1 + 2 = 68 + 7 * s by omega, g]
      exact ih (s + 1) (by omega) (by omega)
  have := key (v + 1).toNat 0 (by omega) (by omega)
  unfold sa at this
  rw [if_pos rfl] at this
  exact this
theorem step_stands {I : sk_S} (h : Inv I) (x y : Int) {Q : Int → sk_S → Prop} (hQ : ∀ r I1, Two (M_Mo_stands x y) r I1 → Q r I1) : M_Sky_stands x y Q I := by
  have e8 := h.1.1
  have es := h.2.2.2.2.2.1.1
  have ht := show_top h
  have hl := fly_top h
  refine s_isFlyer (fun q => z1 ?_) (fun q => z0 (hQ _ _ fun K hK => ?_))
  · refine s_Show_has (fun p => z1 (s_Show_place h q p (hQ _ _ fun K hK => ?_))) (fun p => z0 (hQ _ _ fun K hK => ?_))
    · refine s_Mo_isFlyer (fun _ => z1 (s_isScene (fun _ => z1 ⟨by omega, Ok.use hK ⟨sa_succ I p.1, h⟩⟩) (fun r => absurd (by omega) r))) (fun r => absurd (by omega) r)
    · exact s_Mo_isFlyer (fun _ => z1 (s_isScene (fun r => absurd (by omega) p) (fun _ => z0 (Ok.use hK ⟨rfl, h⟩)))) (fun r => absurd (by omega) r)
  · exact s_Mo_isFlyer (fun r => absurd (by omega) q) (fun _ => z0 (Ok.use hK ⟨rfl, h⟩))
/-- the ticks of the first scenes -/
def tsum (I : sk_S) : Nat → Int
  | 0 => 0
  | k + 1 => tsum I k + (I 186 k + I 187 k)
def slen (I : sk_S) : Int := if I 54 3 = 0 then 0 else tsum I (I 54 3).toNat + I 186 (I 54 3 - 1)
theorem tsum_rg {I : sk_S} (h : Inv I) : ∀ k : Nat, (k : Int) ≤ I 54 3 → 0 ≤ tsum I k ∧ tsum I k ≤ 130 * k := by
  intro k
  induction k with
  | zero => intro _; exact ⟨Int.le_refl _, by show (0 : Int) ≤ 130 * ((0 : Nat) : Int); decide⟩
  | succ k ih =>
    intro hk
    have a := ih (by omega)
    have b := (sc_at h (s := k) ⟨by omega, by omega⟩).1
    have b1 := b.2.1.2.2
    have b2 := b.2.2.1.2
    unfold rg at b1 b2
    show 0 ≤ tsum I k + (I 186 k + I 187 k) ∧ _ ≤ _
    have : tsum I (k + 1) = tsum I k + (I 186 k + I 187 k) := rfl
    omega
theorem slen_rg {I : sk_S} (h : Inv I) : 0 ≤ slen I ∧ slen I ≤ 1600 := by
  have ht := show_top h
  unfold slen
  split
  · omega
  · have a := tsum_rg h (I 54 3).toNat (by omega)
    have b1 := (sc_at h (s := I 54 3 - 1) ⟨by omega, by omega⟩).1.2.1.2.2
    unfold rg at b1
    omega
theorem s_Show_ticks {Q : Int → sk_S → Prop} {I : sk_S} (h : Inv I) (hQ : Q (slen I) I) : M_Show_ticks Q I := by
  have ht := show_top h
  intro X hX
  have key : ∀ m k : Nat, (m : Int) + k = I 54 3 → X (tsum I k) k I := by
    intro m
    induction m with
    | zero =>
      intro k hk
      have ek : (k : Int) = I 54 3 := by omega
      refine hX _ _ _ (bT (by omega) ⟨fun q => ?_, fun q => ⟨by omega, s_Show_at (by omega) ?_⟩⟩)
      · unfold slen at hQ
        rwa [if_pos (by omega)] at hQ
      · have r := slen_rg h
        have c := (sc_at h (s := I 54 3 - 1) ⟨by omega, by omega⟩).1.2.1.2.1
        unfold slen at hQ r
        rw [if_neg (by omega), ← ek, Int.toNat_natCast] at hQ r
        rw [show 65 + 7 * (I 54 3 - 1) + 4 = 69 + 7 * (I 54 3 - 1) by omega]
        show rI (tsum I k + I (69 + 7 * (I 54 3 - 1)) 2) ∧ Q (tsum I k + I (69 + 7 * (I 54 3 - 1)) 2) I
        rw [c, ← ek]
        exact ⟨by omega, hQ⟩
    | succ m ih =>
      intro k hk
      have a := tsum_rg h (k + 1) (by omega)
      have b := (sc_at h (s := k) ⟨by omega, by omega⟩).1
      have b1 := b.2.1
      have b2 := b.2.2.1
      unfold rg at b1 b2
      refine hX _ _ _ (bF (by omega) (s_Show_at (by omega) ?_))
      have e : tsum I (k + 1) = tsum I k + (I 186 k + I 187 k) := rfl
      show rI (I (65 + 7 * (k : Int) + 1) 2 + I (65 + 7 * (k : Int)) 3) ∧ rI (tsum I k + (I (65 + 7 * (k : Int) + 1) 2 + I (65 + 7 * (k : Int)) 3)) ∧ ∀ v1_22, v1_22 = tsum I k + (I (65 + 7 * (k : Int) + 1) 2 + I (65 + 7 * (k : Int)) 3) → rI ((k : Int) + 1) ∧ ∀ v2_23, v2_23 = (k : Int) + 1 → X v1_22 v2_23 I
      rw [show 65 + 7 * (k : Int) + 1 = 66 + 7 * k by omega, b1.1, b2.1]
      refine ⟨by omega, by omega, nm ⟨by omega, nm ?_⟩⟩
      have := ih (k + 1) (by omega)
      rw [e] at this
      exact this
  exact key (I 54 3).toNat 0 (by omega)
theorem s_Mo_length {Q : Int → sk_S → Prop} {I : sk_S} (h : Inv I) (hQ : Q (slen I) I) : M_Mo_length Q I := by
  have ht := show_top h
  have es := h.2.2.2.2.2.1.1
  intro X hX
  have key : ∀ m k : Nat, (m : Int) + k = I 54 3 → X (tsum I k) k I := by
    intro m
    induction m with
    | zero =>
      intro k hk
      have ek : (k : Int) = I 54 3 := by omega
      refine hX _ _ _ (bT (by omega) ⟨fun q => ?_, fun q => ?_⟩)
      · have r := slen_rg h
        unfold slen at hQ r
        rw [if_neg (by omega), ← ek, Int.toNat_natCast] at hQ r
        rw [← es, ← ek]
        exact ⟨by omega, by omega, hQ⟩
      · unfold slen at hQ
        rwa [if_pos (by omega)] at hQ
    | succ m ih =>
      intro k hk
      have a := tsum_rg h (k + 1) (by omega)
      have e : tsum I (k + 1) = tsum I k + (I 186 k + I 187 k) := rfl
      refine hX _ _ _ (bF (by omega) ⟨by omega, by omega, by omega, nm ⟨by omega, nm ?_⟩⟩)
      have := ih (k + 1) (by omega)
      rw [e] at this
      exact this
  exact key (I 54 3).toNat 0 (by omega)
theorem step_length {I : sk_S} (h : Inv I) {Q : Int → sk_S → Prop} (hQ : ∀ r I1, Two M_Mo_length r I1 → Q r I1) : M_Sky_length Q I :=
  s_Show_ticks h (hQ _ _ fun K hK => s_Mo_length h (Ok.use hK ⟨rfl, h⟩))
