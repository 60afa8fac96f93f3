/-! ===== part: the class settles ===== -/
def mmP (I : sk_S) (a b lag : Int) : Prop := mtv (I 44 2) (I 36 0) (stC I 44) (spC I 44) a b lag
def noz (I : sk_S) (n : Int) : Prop := ∀ i : Int, 0 ≤ i → i < n → ¬ znv (stC I 44) (spC I 44) (I 36 1) (I 36 2) (I 36 3) i
def oth (I : sk_S) (f n : Nat) : Prop := ∀ a b : Int, (f : Int) ≤ a → a < b → b < n → ¬ mmP I a b 0
theorem s_settle {f n : Nat} {I : sk_S} (h : Inv I) (en : I 44 1 = n) (hf : f = 6 ∧ 6 ≤ n ∨ f = n ∧ n < 6) (h0n : 0 < n) {Q : Int → sk_S → Prop}
    (hN : (∀ c : Nat, c < 4 ^ f → ¬ (pfx (mmP I) f n f c ∧ oth I f n)) → ∀ J : sk_S, (∀ a k, a ≠ 47 → a ≠ 49 → a ≠ 51 → a ≠ 53 → J a k = I a k) → Q (-1) J)
    (hY : ∀ c : Nat, c < 4 ^ f → pfx (mmP I) f n f c → oth I f n → (∀ c' : Nat, c' < 4 ^ f → pfx (mmP I) f n f c' → Sd f c < Sd f c' ∨ (Sd f c = Sd f c' ∧ c ≤ c')) → ∀ J : sk_S, (∀ a k, a ≠ 46 → a ≠ 47 → a ≠ 49 → a ≠ 51 → a ≠ 53 → J a k = I a k) → (∀ i c : Int, 0 ≤ c → c < 7 → J 46 (i * 8 + c) = I 46 (i * 8 + c)) → (∀ i : Nat, i < n → J 46 ((i : Int) * 8 + 7) = if i < f then (dgt f c i : Int) else 0) → Q (Sd f c) J) : M_Parting_settle 44 (I 36 0) Q I := by
  have h5 := h.2.2.2.2.1
  have hG := h.2.2.1.1.2
  unfold rg at hG
  obtain ⟨p1, p2, p3⟩ := pass_top h5
  obtain ⟨t1, t2⟩ := p3 (by omega)
  have e6 : imin ((up I 47 3 (I 44 1)) 47 3) 6 = f := by
    rw [up_h, en]
    unfold imin
    split <;> omega
  show M_Parting_noteMeetings 44 (I 36 0) _ (up (up (up I 47 3 (I 44 1)) 47 4 (imin ((up I 47 3 (I 44 1)) 47 3) 6)) 47 5 1000)
  rw [e6, en]
  generalize hI0 : up (up (up I 47 3 (n : Int)) 47 4 (f : Int)) 47 5 1000 = I0
  have o : ∀ a k, a ≠ 47 → I0 a k = I a k := fun a k q => by rw [← hI0, up_o (by omega), up_o (by omega), up_o (by omega)]
  have i3 : I0 47 3 = n := by rw [← hI0, up_o (by omega), up_o (by omega), up_h]
  have i4 : I0 47 4 = f := by rw [← hI0, up_o (by omega), up_h]
  have i5 : I0 47 5 = 1000 := by rw [← hI0, up_h]
  refine s_noteMeetings i3 (by omega) (mm := mmP I) (fun J a b lag R hJ a0 ab bn l1 l2 r1 r0 => ?_) (fun J hJ hnt => ?_)
  · have e : ∀ a k, a ≠ 47 → a ≠ 49 → J a k = I a k := fun a k q1 q2 => by rw [hJ a k q2, o a k q1]
    have s1 : stC J 44 = stC I 44 := by funext i c; exact e _ _ (by decide) (by decide)
    have s2 : spC J 44 = spC I 44 := by funext i c; exact e _ _ (by decide) (by decide)
    have s3 : J 44 2 = I 44 2 := e _ _ (by decide) (by decide)
    refine s_meet kdn_44 (by omega) (by omega) (by rw [s3]; exact t2) hG (by omega) (by rw [s1, s2]; exact lp_inC h5 (by omega)) (by rw [s1, s2]; exact lp_inC h5 (by omega)) ?_ ?_
    · rw [s1, s2, s3]; exact r1
    · rw [s1, s2, s3]; exact r0
  · have j3 : J 47 3 = n := by rw [hJ _ _ (by decide)]; exact i3
    have j4 : J 47 4 = f := by rw [hJ _ _ (by decide)]; exact i4
    have j5 : J 47 5 = 1000 := by rw [hJ _ _ (by decide)]; exact i5
    have jI : ∀ a k, a ≠ 47 → a ≠ 49 → J a k = I a k := fun a k q1 q2 => by rw [hJ a k q2, o a k q1]
    refine s_doOthersFit hnt (by omega) hf j3 j4 (fun q => z1 ?_) (fun q => z0 ⟨fun c => absurd j5 c, fun _ => hN (fun c _ w => q w.2) J (fun a k q1 q2 _ _ => jI a k q1 q2)⟩)
    have hS : SI J J := fun _ _ _ _ _ => rfl
    refine s_search hnt (by omega) hf j3 j4 8 0 f 0 J _ (by omega) (by omega) hS (fun i hi => absurd hi (Nat.not_lt_zero i)) ⟨fun a b _ w => absurd w (Nat.not_lt_zero b), fun a b w => absurd w (Nat.not_lt_zero a)⟩ ?_ (fun K hK _ hB => ?_)
    · refine Or.inl ⟨j5, fun c hc => ?_⟩
      unfold Hh at hc
      rw [Nat.zero_mul] at hc
      omega
    · have e1 : Hh f (0 + 1) = 4 ^ f := by unfold Hh; rw [Nat.zero_add, Nat.one_mul]
      rw [e1] at hB
      have kI : ∀ a k, a ≠ 47 → a ≠ 49 → a ≠ 51 → a ≠ 53 → K a k = I a k := fun a k q1 q2 q3 q4 => by rw [hK a k q3 q4 (by omega), jI a k q1 q2]
      rcases hB with ⟨b1, b2⟩ | ⟨c, b1, b2, b3, b4, b5⟩
      · exact ⟨fun w => absurd b1 w, fun _ => hN (fun c hc w => b2 c hc w.1) K kI⟩
      · have sl := Sd_le f c
        refine ⟨fun _ => ?_, fun w => by omega⟩
        have k3 : K 47 3 = n := by rw [hK _ _ (by decide) (by decide) (by omega)]; exact j3
        intro X hX
        have key : ∀ (m i : Nat) (M : sk_S), m + i = n → (∀ a k, a ≠ 46 → M a k = K a k) → (∀ i c : Int, 0 ≤ c → c < 7 → M 46 (i * 8 + c) = I 46 (i * 8 + c)) → (∀ j : Nat, j < i → M 46 ((j : Int) * 8 + 7) = if j < f then (dgt f c j : Int) else 0) → X i M := by
          intro m
          induction m with
          | zero =>
            intro i M q1 q2 q3 q4
            obtain rfl : i = n := by omega
            refine hX _ _ (bT (by rw [q2 _ _ (by decide)]; omega) ?_)
            rw [q2 47 5 (by decide), ← b3]
            exact hY c b1 b2 q b5 M (fun a k w1 w2 w3 w4 w5 => by rw [q2 a k w1]; exact kI a k w2 w3 w4 w5) q3 q4
          | succ m ih =>
            intro i M q1 q2 q3 q4
            have put : ∀ v : Int, v = (if i < f then (dgt f c i : Int) else 0) → M_Pass_setDelay 44 i v (fun I_79 => rI ((i : Int) + 1) ∧ ∀ v3_82, v3_82 = (i : Int) + 1 → X v3_82 I_79) M := fun v hv => by
              refine ⟨by omega, s_Row_put (by rw [show (44 : Int) + 1 + 1 = 46 from rfl, lnn_46]; omega) ⟨by omega, nm ?_⟩⟩
              rw [show (44 : Int) + 1 + 1 = 46 from rfl]
              refine ih (i + 1) _ (by omega) (fun a k w => by rw [up_o (by omega)]; exact q2 a k w) (fun i' c' w1 w2 => by rw [up_o (by omega)]; exact q3 i' c' w1 w2) (fun j hj => ?_)
              by_cases e : j = i
              · subst e
                rw [up_h]
                exact hv
              · rw [up_o (by omega)]
                exact q4 j (by omega)
            refine hX _ _ (bF (by rw [q2 _ _ (by decide)]; omega) ?_)
            by_cases cf : i < f
            · refine s_Row_at (by rw [show (52 : Int) + 1 = 53 from rfl, lnn_53]; omega) (put _ ?_)
              rw [show (52 : Int) + 1 = 53 from rfl, if_pos cf, q2 _ _ (by decide)]
              exact b4 i cf
            · refine s_Row_at0 (by rw [show (52 : Int) + 1 = 53 from rfl, lnn_53]; omega) (put _ ?_)
              rw [if_neg cf]
        exact key n 0 K rfl (fun _ _ _ => rfl) (fun i c w1 w2 => kI _ _ (by decide) (by decide) (by decide) (by decide)) (fun j hj => absurd hj (Nat.not_lt_zero j))
