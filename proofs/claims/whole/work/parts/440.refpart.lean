/-! ===== part: the reference tries all ===== -/
theorem b_q0 : ∀ q : Nat, q < 8 → ∀ c : Nat, c < 512 → iand ((512 * q + c : Nat) : Int) 3 = (((512 * q + c) % 4 : Nat) : Int) ∧ ishr ((512 * q + c : Nat) : Int) 2 = (((512 * q + c) / 4 : Nat) : Int) := by decide +kernel
theorem b_q (c : Nat) (h : c < 4096) : iand c 3 = ((c % 4 : Nat) : Int) ∧ ishr c 2 = ((c / 4 : Nat) : Int) := by
  have := b_q0 (c / 512) (by omega) (c % 512) (by omega)
  rwa [show 512 * (c / 512) + c % 512 = c by omega] at this
theorem b_pow4 : ∀ f : Nat, f < 7 → ishl 1 (2 * (f : Int)) = ((4 ^ f : Nat) : Int) := by decide +kernel
theorem p4_le {k c : Nat} (hk : k ≤ 6) (hc : c < 4 ^ k) : c < 4096 := Nat.lt_of_lt_of_le hc (Nat.pow_le_pow_right (by decide) hk)
theorem Sd_0 : ∀ k : Nat, Sd k 0 = 0 := by
  intro k
  induction k with
  | zero => rfl
  | succ k ih =>
    show Sd k (0 / 4) + 0 % 4 = 0
    rw [show 0 / 4 = 0 from rfl, ih]
theorem s_sumOf {f c : Nat} {Q : Int → sk_S → Prop} {I : sk_S} (hf : f ≤ 6) (hc : c < 4 ^ f) (h : Q (Sd f c) I) : M_Mo_sumOf c Q I := by
  intro X hX
  have key : ∀ k c v : Nat, k ≤ 6 → c < 4 ^ k → v + 3 * k ≤ 100 → Q ((v + Sd k c : Nat) : Int) I → X v c I := by
    intro k
    induction k with
    | zero =>
      intro c v h1 h2 h3 h4
      rw [Nat.pow_zero] at h2
      exact hX _ _ _ (bT (by omega) h4)
    | succ k ih =>
      intro c v h1 h2 h3 h4
      by_cases e : c = 0
      · subst e
        rw [Sd_0] at h4
        exact hX _ _ _ (bT (by omega) h4)
      · have b := b_q c (p4_le h1 h2)
        rw [Nat.pow_succ] at h2
        have e2 : v + Sd (k + 1) c = v + c % 4 + Sd k (c / 4) := by
          show v + (Sd k (c / 4) + c % 4) = _
          omega
        rw [e2] at h4
        refine hX _ _ _ (bF (by omega) ?_)
        rw [b.1, b.2]
        exact ⟨by omega, nm (nm (ih (c / 4) (v + c % 4) (by omega) (by omega) (by omega) h4))⟩
  have := key f c 0 hf hc (by omega) (by rw [Nat.zero_add]; exact h)
  exact this
theorem s_waits {f c : Nat} {Q : sk_S → Prop} {M : sk_S} (hf : f ≤ 6) (hc : c < 4 ^ f) (h : ∀ L : sk_S, (∀ a k : Int, ¬ (a = 174 ∧ 0 ≤ k ∧ k < f) → L a k = M a k) → (∀ i : Nat, i < f → L 174 i = dgt f c i) → Q L) : M_Mo_waits c f Q M := by
  refine ⟨by omega, nm ?_⟩
  intro X hX
  have key : ∀ (k c : Nat) (M : sk_S), k ≤ 6 → c < 4 ^ k → (∀ L : sk_S, (∀ a t : Int, ¬ (a = 174 ∧ 0 ≤ t ∧ t < k) → L a t = M a t) → (∀ i : Nat, i < k → L 174 i = dgt k c i) → Q L) → X c ((k : Int) - 1) M := by
    intro k
    induction k with
    | zero =>
      intro c M h1 h2 h3
      exact hX _ _ _ (bT (by omega) (h3 M (fun _ _ _ => rfl) (fun i hi => absurd hi (Nat.not_lt_zero i))))
    | succ k ih =>
      intro c M h1 h2 h3
      have b := b_q c (p4_le h1 h2)
      rw [Nat.pow_succ] at h2
      rw [show ((k + 1 : Nat) : Int) - 1 = k by omega]
      refine hX _ _ _ (bF (by omega) ?_)
      rw [b.1, b.2]
      refine ⟨by omega, nm ⟨by omega, nm ?_⟩⟩
      rw [show (k : Int) + -1 = (k : Int) - 1 by omega]
      refine ih (c / 4) _ (by omega) (by omega) (fun L l1 l2 => h3 L (fun a t q => ?_) (fun i hi => ?_))
      · rw [l1 a t (by omega), up_o (by omega)]
      · by_cases e : i = k
        · subst e
          rw [l1 _ _ (by omega), up_h]
          unfold dgt
          rw [if_pos rfl]
        · rw [l2 i (by omega)]
          have e2 : dgt (k + 1) c i = if i = k then c % 4 else dgt k (c / 4) i := rfl
          rw [e2, if_neg e]
  exact key f c M hf hc h
def RW (I M : sk_S) (f : Nat) : Prop := (∀ a k : Int, ¬ (a = 174 ∧ 0 ≤ k ∧ k < 10) → ¬ (a = 184 ∧ 0 ≤ k ∧ k < 10) → M a k = I a k) ∧ (∀ i : Int, (f : Int) ≤ i → i < 10 → M 174 i = 0) ∧ ∀ i : Int, 0 ≤ i → i < 10 → M 184 i = I 174 i
theorem s_partLoop {f : Nat} {cc : Nat → Prop} {Q : Int → sk_S → Prop} {I M : sk_S} (hf : f ≤ 6) (hM : RW I M f)
    (hcl : ∀ (L : sk_S) (c : Nat) (K : Int → sk_S → Prop), RW I L f → c < 4 ^ f → (∀ i : Nat, i < f → L 174 i = dgt f c i) → (cc c → K 1 L) → (¬ cc c → K 0 L) → M_Mo_isClean 0 K L)
    (h1 : ∀ c : Nat, c < 4 ^ f → cc c → (∀ c' : Nat, c' < 4 ^ f → cc c' → Sd f c < Sd f c' ∨ (Sd f c = Sd f c' ∧ c ≤ c')) → ∀ L : sk_S, RW I L f → (∀ i : Nat, i < f → L 174 i = dgt f c i) → Q (Sd f c) L)
    (h0 : (∀ c : Nat, c < 4 ^ f → ¬ cc c) → ∀ L : sk_S, (∀ a k : Int, ¬ (a = 184 ∧ 0 ≤ k ∧ k < 10) → L a k = I a k) → Q (-3) L) : L_Mo_part_70 f Q 0 M := by
  have p6 : 4 ^ f ≤ 4096 := Nat.pow_le_pow_right (by decide) (show f ≤ 6 from hf)
  intro X hX
  have key : ∀ (m s : Nat) (M : sk_S), m + s = 19 → RW I M f → (∀ c : Nat, c < 4 ^ f → Sd f c < s → ¬ cc c) → X s M := by
    intro m
    induction m with
    | zero =>
      intro s M q1 q2 q3
      refine hX _ _ (bT (by omega) ?_)
      intro Y hY
      have fin : ∀ (t i : Nat) (L : sk_S), t + i = 10 → (∀ a k : Int, ¬ (a = 174 ∧ 0 ≤ k ∧ k < 10) → ¬ (a = 184 ∧ 0 ≤ k ∧ k < 10) → L a k = I a k) → (∀ j : Int, 0 ≤ j → j < 10 → L 184 j = I 174 j) → (∀ j : Int, 0 ≤ j → j < i → L 174 j = I 174 j) → Y i L := by
        intro t
        induction t with
        | zero =>
          intro i L w1 w2 w3 w4
          obtain rfl : i = 10 := by omega
          refine hY _ _ (bT (by decide) (h0 (fun c hc => q3 c hc (by have := Sd_le f c; omega)) L (fun a k d => ?_)))
          by_cases e : a = 174 ∧ 0 ≤ k ∧ k < 10
          · rw [e.1]; exact w4 k e.2.1 e.2.2
          · exact w2 a k e d
        | succ t ih =>
          intro i L w1 w2 w3 w4
          refine hY _ _ (bF (by omega) ⟨by omega, by omega, by omega, nm (ih (i + 1) _ (by omega) (fun a k d1 d2 => by rw [up_o (by omega)]; exact w2 a k d1 d2) (fun j j1 j2 => by rw [up_o (by omega)]; exact w3 j j1 j2) (fun j j1 j2 => ?_))⟩)
          by_cases e : j = i
          · rw [e, up_h]; exact w3 i (by omega) (by omega)
          · rw [up_o (by omega)]; exact w4 j j1 (by omega)
      exact fin 10 0 M rfl q2.1 q2.2.2 (fun j j1 j2 => by omega)
    | succ m ih =>
      intro s M q1 q2 q3
      refine hX _ _ (bF (by omega) ?_)
      intro Y hY
      have inner : ∀ (t c : Nat) (M : sk_S), t + c = 4 ^ f → RW I M f → (∀ c' : Nat, c' < c → Sd f c' = s → ¬ cc c') → Y c M := by
        intro t
        induction t with
        | zero =>
          intro c M w1 w2 w3
          have e : c = 4 ^ f := by omega
          refine hY _ _ (bT (by rw [b_pow4 f (by omega)]; omega) ⟨by omega, nm (ih (s + 1) M (by omega) w2 fun c' d1 d2 => ?_)⟩)
          by_cases e' : Sd f c' = s
          · exact w3 c' (by omega) e'
          · exact q3 c' d1 (by omega)
        | succ t ih2 =>
          intro c M w1 w2 w3
          have hc : c < 4 ^ f := by omega
          have sl := Sd_le f c
          refine hY _ _ (bF (by rw [b_pow4 f (by omega)]; omega) (s_sumOf hf hc ⟨fun e => s_waits hf hc (fun L l1 l2 => ?_), fun e => ⟨by omega, nm (ih2 (c + 1) M (by omega) w2 fun c' d1 d2 => ?_)⟩⟩))
          · have hL : RW I L f := ⟨fun a k d1 d2 => by rw [l1 a k (by omega)]; exact w2.1 a k d1 d2, fun i i1 i2 => by rw [l1 _ _ (by omega)]; exact w2.2.1 i i1 i2, fun i i1 i2 => by rw [l1 _ _ (by omega)]; exact w2.2.2 i i1 i2⟩
            refine hcl L c _ hL hc l2 (fun y => z1 ?_) (fun y => z0 ⟨by omega, nm (ih2 (c + 1) L (by omega) hL fun c' d1 d2 => ?_)⟩)
            · rw [← e]
              refine h1 c hc y (fun c' d1 d2 => ?_) L hL l2
              by_cases g : Sd f c' < s
              · exact absurd d2 (q3 c' d1 g)
              · by_cases g2 : Sd f c' = s
                · by_cases g3 : c' < c
                  · exact absurd d2 (w3 c' g3 g2)
                  · omega
                · omega
            · by_cases g : c' = c
              · subst g; exact y
              · exact w3 c' (by omega) d2
          · by_cases g : c' = c
            · subst g; omega
            · exact w3 c' (by omega) d2
      exact inner (4 ^ f) 0 M rfl q2 (fun c' d => absurd d (Nat.not_lt_zero c'))
  exact key 19 0 M rfl hM (fun c _ d => absurd d (Nat.not_lt_zero _))
theorem s_Mo_part {f n : Nat} {Q : Int → sk_S → Prop} {I : sk_S} (en : I 176 0 = n) (h0n : 0 < n) (hf : f = 6 ∧ 6 ≤ n ∨ f = n ∧ n < 6) (h : ∀ M : sk_S, RW I M f → L_Mo_part_70 f Q 0 M) : M_Mo_part Q I := by
  refine ⟨by decide, nT (by omega) ?_⟩
  intro X hX
  have key : ∀ (t i : Nat) (L : sk_S), t + i = 10 → (∀ a k : Int, ¬ (a = 174 ∧ 0 ≤ k ∧ k < 10) → ¬ (a = 184 ∧ 0 ≤ k ∧ k < 10) → L a k = I a k) → (∀ j : Int, (i : Int) ≤ j → L 174 j = I 174 j) → (∀ j : Int, 0 ≤ j → j < i → L 174 j = 0 ∧ L 184 j = I 174 j) → X i L := by
    intro t
    induction t with
    | zero =>
      intro i L w1 w2 w3 w4
      obtain rfl : i = 10 := by omega
      have l176 : L 176 0 = n := by rw [w2 _ _ (by omega) (by omega)]; exact en
      have go := h L ⟨w2, fun j j1 j2 => (w4 j (by omega) j2).1, fun j j1 j2 => (w4 j j1 j2).2⟩
      refine hX _ _ (bT (by decide) ⟨by decide, fun q => ?_, fun q => ⟨by decide, ?_⟩⟩)
      · have ef : f = 6 := by omega
        subst ef
        exact go
      · have ef : f = n := by omega
        subst ef
        show L_Mo_part_70 (L 176 0) Q 0 L
        rw [l176]
        exact go
    | succ t ih =>
      intro i L w1 w2 w3 w4
      refine hX _ _ (bF (by omega) ⟨by omega, by omega, by omega, by omega, nm (ih (i + 1) _ (by omega) (fun a k d1 d2 => by rw [up_o (by omega), up_o (by omega)]; exact w2 a k d1 d2) (fun j j1 => by rw [up_o (by omega), up_o (by omega)]; exact w3 j (by omega)) (fun j j1 j2 => ?_))⟩)
      by_cases e : j = i
      · rw [e, up_h, up_o (by omega), up_h]
        exact ⟨rfl, w3 i (by omega)⟩
      · rw [up_o (by omega), up_o (by omega), up_o (by omega), up_o (by omega)]
        exact w4 j j1 (by omega)
  exact key 10 0 I rfl (fun _ _ _ _ => rfl) (fun _ _ => rfl) (fun j j1 j2 => by omega)
