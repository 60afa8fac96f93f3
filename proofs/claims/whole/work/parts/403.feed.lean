/-! ===== feed ===== -/
def bt (w k : Int) : Int := l2i (land (lushr w (8 * k)) 255)
def bt' (w k : Int) : Int := l2i (land (lshr w (8 * k)) 255)
theorem bv_byte (x : BitVec 64) (s : Nat) (hs : s ≤ 56) : (x >>> s) &&& 255#64 = (x.sshiftRight s) &&& 255#64 := by
  apply BitVec.eq_of_getLsbD_eq
  intro i hi
  simp only [BitVec.getLsbD_and, BitVec.getLsbD_ushiftRight, BitVec.getLsbD_sshiftRight]
  by_cases h : i < 8
  · have h1 : s + i < 64 := by omega
    have h2 : ¬ 64 ≤ i := by omega
    simp [h1, h2, hi]
  · have h3 : (255#64).getLsbD i = false := by
      rw [show (255#64 : BitVec 64) = BitVec.ofNat 64 (2 ^ 8 - 1) from rfl, BitVec.getLsbD_ofNat, Nat.testBit_two_pow_sub_one]
      simp [h]
    rw [h3]
    simp
theorem byte64 (X : Int64) (k : Nat) (hk : k < 8) : ((X.toUInt64 >>> ((iI (8 * k)).toInt64.toUInt64 &&& Int64.toUInt64 63)).toInt64 &&& lI 255) = ((X >>> ((iI (8 * k)).toInt64 &&& 63)) &&& lI 255) := by
  apply Int64.toBitVec_inj.mp
  have h1 : ((iI (8 * k)).toInt64.toUInt64 &&& Int64.toUInt64 63).toBitVec.toNat % 64 = 8 * k := by
    match k, hk with
    | 0, _ => rfl
    | 1, _ => rfl
    | 2, _ => rfl
    | 3, _ => rfl
    | 4, _ => rfl
    | 5, _ => rfl
    | 6, _ => rfl
    | 7, _ => rfl
  have h2 : (((iI (8 * k)).toInt64 &&& 63).toBitVec.smod 64).toNat = 8 * k := by
    match k, hk with
    | 0, _ => rfl
    | 1, _ => rfl
    | 2, _ => rfl
    | 3, _ => rfl
    | 4, _ => rfl
    | 5, _ => rfl
    | 6, _ => rfl
    | 7, _ => rfl
  have e1 : ((X.toUInt64 >>> ((iI (8 * k)).toInt64.toUInt64 &&& Int64.toUInt64 63)).toInt64 &&& lI 255).toBitVec = (X.toBitVec >>> (8 * k)) &&& 255#64 := by
    rw [Int64.toBitVec_and]
    congr 1
    show (X.toUInt64 >>> _).toBitVec = _
    rw [UInt64.toBitVec_shiftRight]
    show X.toBitVec >>> (_ % 64 : BitVec 64) = _
    rw [BitVec.ushiftRight_eq']
    congr 1
  have e2 : ((X >>> ((iI (8 * k)).toInt64 &&& 63)) &&& lI 255).toBitVec = (X.toBitVec.sshiftRight (8 * k)) &&& 255#64 := by
    rw [Int64.toBitVec_and]
    congr 1
    rw [Int64.toBitVec_shiftRight, BitVec.sshiftRight_eq']
    congr 1
  rw [e1, e2]
  exact bv_byte _ _ (by omega)
theorem bt_eq (w : Int) {k : Int} (h : 0 ≤ k ∧ k < 8) : bt w k = bt' w k := by
  obtain ⟨j, rfl⟩ : ∃ j : Nat, k = j := ⟨k.toNat, by omega⟩
  unfold bt bt' l2i land lushr lshr
  simp only [lI_of]
  rw [byte64 _ j (by omega)]
theorem bt_rg (w k : Int) : rg 0 255 (bt w k) := by
  unfold bt l2i land
  rw [lI_of]
  have h : ∀ X : Int64, rg 0 255 (X &&& lI 255).toInt32.toInt := by
    intro X
    have h1 : (X &&& lI 255).toBitVec.toNat ≤ 255 := by
      rw [Int64.toBitVec_and, BitVec.toNat_and]
      exact Nat.and_le_right
    have h2 : (X &&& lI 255).toInt = ((X &&& lI 255).toBitVec.toNat : Int) := by
      rw [← Int64.toInt_toBitVec, BitVec.toInt_eq_toNat_of_lt (by omega)]
    rw [Int64.toInt_toInt32, h2, Int.bmod_eq_of_le (by omega) (by omega)]
    unfold rg
    omega
  exact h _
theorem s_Tape_add {w n : Int} {Q : sk_S → Prop} {I : sk_S} (hn : 1 ≤ n ∧ n ≤ 8) (hs : 0 ≤ I 1 1 ∧ I 1 1 + n ≤ 300) (h : ∀ J : sk_S, (∀ a k, J a k = if a = 1 ∧ k = 1 then I 1 1 + n else if a = 3 ∧ I 1 1 ≤ k ∧ k < I 1 1 + n then bt w (n - 1 - (k - I 1 1)) else I a k) → Q J) : M_Tape_add w n Q I := by
  refine ⟨⟨by omega, by omega⟩, nm ?_⟩
  intro X hX
  have key : ∀ (r : Nat) (t : Int) (J : sk_S), t + r = n → 0 ≤ t → (∀ a k, J a k = if a = 1 ∧ k = 1 then I 1 1 + t else if a = 3 ∧ I 1 1 ≤ k ∧ k < I 1 1 + t then bt w (n - 1 - (k - I 1 1)) else I a k) → X (n - 1 - t) J := by
    intro r
    induction r with
    | zero =>
      intro t J h1 h2 hJ
      obtain rfl : t = n := by omega
      exact hX _ J (bT (by omega) (h J hJ))
    | succ r ih =>
      intro t J h1 h2 hJ
      have e1 : J 1 1 = I 1 1 + t := by rw [hJ, if_pos ⟨rfl, rfl⟩]
      refine hX _ J (bF (by omega) (s_Row_put (by rw [e1, show (2 : Int) + 1 = 3 from rfl, lnn_3]; omega) ⟨by rw [up_o (by omega), e1]; exact ⟨by omega, by omega⟩, ⟨by omega, by omega⟩, nm ?_⟩))
      rw [show n - 1 - t + (-1) = n - 1 - (t + 1) by omega]
      refine ih (t + 1) _ (by omega) (by omega) (fun a k => ?_)
      have e2 : ∀ v : Int, up J (2 + 1) (J 1 1) v 1 1 = I 1 1 + t := fun v => by rw [up_o (by omega), e1]
      rw [e2, e1]
      by_cases c1 : a = 1 ∧ k = 1
      · rw [if_pos c1, c1.1, c1.2, up_h]; omega
      · rw [if_neg c1, up_o c1]
        by_cases c2 : a = 3 ∧ k = I 1 1 + t
        · rw [if_pos (by omega), c2.1, c2.2, show (3 : Int) = 2 + 1 from rfl, up_h]
          unfold bt
          rw [show n - 1 - t = n - 1 - (I 1 1 + t - I 1 1) by omega]
        · rw [up_o (by omega), hJ, if_neg c1]
          by_cases c3 : a = 3 ∧ I 1 1 ≤ k ∧ k < I 1 1 + t
          · rw [if_pos c3, if_pos (by omega)]
          · rw [if_neg c3, if_neg (by omega)]
  have := key n.toNat 0 I (by omega) (by omega) (fun a k => by
    by_cases c1 : a = 1 ∧ k = 1
    · rw [if_pos c1, c1.1, c1.2]; omega
    · rw [if_neg c1, if_neg (by omega)])
  rwa [show n - 1 - 0 = n - 1 by omega] at this
theorem s_Mo_feed {w n : Int} {Q : Int → sk_S → Prop} {I : sk_S} (hn : 1 ≤ n ∧ n ≤ 8) (hs : 0 ≤ I 158 15 ∧ I 158 15 + n ≤ 300) (h : ∀ J : sk_S, (∀ a k, J a k = if a = 158 ∧ k = 15 then I 158 15 + n else if a = 167 ∧ I 158 15 ≤ k ∧ k < I 158 15 + n then bt' w (n - 1 - (k - I 158 15)) else I a k) → Q (J 158 15) J) : L_Mo_feed_35 w Q (n - 1) I := by
  intro X hX
  have key : ∀ (r : Nat) (t : Int) (J : sk_S), t + r = n → 0 ≤ t → (∀ a k, J a k = if a = 158 ∧ k = 15 then I 158 15 + t else if a = 167 ∧ I 158 15 ≤ k ∧ k < I 158 15 + t then bt' w (n - 1 - (k - I 158 15)) else I a k) → X (n - 1 - t) J := by
    intro r
    induction r with
    | zero =>
      intro t J h1 h2 hJ
      obtain rfl : t = n := by omega
      exact hX _ J (bT (by omega) (h J hJ))
    | succ r ih =>
      intro t J h1 h2 hJ
      have e1 : J 158 15 = I 158 15 + t := by rw [hJ, if_pos ⟨rfl, rfl⟩]
      refine hX _ J (bF (by omega) ⟨by omega, by rw [up_o (by omega), e1]; exact ⟨by omega, by omega⟩, ⟨by omega, by omega⟩, nm ?_⟩)
      rw [show n - 1 - t + (-1) = n - 1 - (t + 1) by omega]
      refine ih (t + 1) _ (by omega) (by omega) (fun a k => ?_)
      rw [up_o (show ¬ ((158 : Int) = 167 ∧ (15 : Int) = J 158 15) by omega), e1]
      by_cases c1 : a = 158 ∧ k = 15
      · rw [if_pos c1, c1.1, c1.2, up_h]; omega
      · rw [if_neg c1, up_o c1]
        by_cases c2 : a = 167 ∧ k = I 158 15 + t
        · rw [if_pos (by omega), c2.1, c2.2, up_h]
          unfold bt'
          rw [show n - 1 - t = n - 1 - (I 158 15 + t - I 158 15) by omega]
        · rw [up_o (by omega), hJ, if_neg c1]
          by_cases c3 : a = 167 ∧ I 158 15 ≤ k ∧ k < I 158 15 + t
          · rw [if_pos c3, if_pos (by omega)]
          · rw [if_neg c3, if_neg (by omega)]
  have := key n.toNat 0 I (by omega) (by omega) (fun a k => by
    by_cases c1 : a = 158 ∧ k = 15
    · rw [if_pos c1, c1.1, c1.2]; omega
    · rw [if_neg c1, if_neg (by omega)])
  rwa [show n - 1 - 0 = n - 1 by omega] at this
theorem step_feed {I : sk_S} (h : Inv I) (w n : Int) (hr : rI n) {Q : Int → sk_S → Prop} (hQ : ∀ r I1, Two (M_Mo_feed w n) r I1 → Q r I1) : M_Sky_feed w n Q I := by
  obtain ⟨h1, h2, h3, h4, h5, h6, h7⟩ := id h
  have h8 := h2.2.1
  obtain ⟨t1, t2, t3⟩ := id h4
  unfold rg at h8 t2
  refine s_isWithin (fun q => n1 ⟨⟨by omega, by omega⟩, ?_⟩) (fun q => n0 (hQ _ _ fun K hK => ?_))
  · by_cases c : I 1 1 + n ≤ 300
    · refine bT c (s_Tape_add q ⟨t2.1, c⟩ (fun J hJ => ?_))
      have e1 : J 1 1 = I 1 1 + n := by rw [hJ, if_pos ⟨rfl, rfl⟩]
      have e2 : J 158 15 = I 1 1 := by rw [hJ, if_neg (by omega), if_neg (by omega)]; exact t1.symm
      refine hQ _ _ fun K0 hK0 => ?_
      refine s_isIn (fun _ => n1 ⟨⟨by omega, by omega⟩, bT (by omega) ⟨⟨by omega, by omega⟩, nm ?_⟩⟩) (fun p => absurd q p)
      refine s_Mo_feed q (by rw [e2]; omega) (fun K hK => ?_)
      have e3 : K 158 15 = I 1 1 + n := by rw [hK, if_pos ⟨rfl, rfl⟩, e2]
      have e4 : ∀ a k, ¬ (a = 1 ∧ k = 1) → ¬ a = 3 → ¬ a = 167 → ¬ (a = 158 ∧ k = 15) → K a k = I a k := fun a k c1 c2 c3 c4 => by
        rw [hK, if_neg c4, if_neg (fun q => c3 q.1), hJ, if_neg c1, if_neg (fun q => c2 q.1)]
      refine Ok.use hK0 ⟨by rw [e1, e3], h1.cong fun a k d => ?_, h2.cong fun a k d => ?_, h3.cong fun a k d => ?_, ?_, h5.cong fun a k d => ?_, h6.cong (by omega) (Or.inl ?_) (sameFig_of (fun a k d => ?_) (by omega)) (fun a k d => ?_), h7.cong fun a k d => ?_⟩
      · unfold dFly at d; exact e4 a k (by omega) (by omega) (by omega) (by omega)
      · unfold dFig at d; exact e4 a k (by omega) (by omega) (by omega) (by omega)
      · unfold dAir at d; exact e4 a k (by omega) (by omega) (by omega) (by omega)
      · have e5 : K 1 1 = I 1 1 + n := by rw [hK, if_neg (by omega), if_neg (by omega), e1]
        unfold iTape
        rw [e3, e5]
        refine ⟨rfl, ⟨by omega, c⟩, fun j j1 j2 => ?_⟩
        have k3 : K 3 j = if I 1 1 ≤ j ∧ j < I 1 1 + n then bt w (n - 1 - (j - I 1 1)) else I 3 j := by
          rw [hK, if_neg (by omega), if_neg (by omega), hJ, if_neg (by omega)]
          by_cases c5 : I 1 1 ≤ j ∧ j < I 1 1 + n
          · rw [if_pos ⟨rfl, c5⟩, if_pos c5]
          · rw [if_neg (fun q => c5 q.2), if_neg c5]
        have k167 : K 167 j = if I 1 1 ≤ j ∧ j < I 1 1 + n then bt' w (n - 1 - (j - I 1 1)) else I 167 j := by
          rw [hK, if_neg (by omega), e2]
          by_cases c5 : I 1 1 ≤ j ∧ j < I 1 1 + n
          · rw [if_pos ⟨rfl, c5⟩, if_pos c5]
          · rw [if_neg (fun q => c5 q.2), if_neg c5, hJ, if_neg (by omega), if_neg (by omega)]
        rw [k3, k167]
        by_cases c5 : I 1 1 ≤ j ∧ j < I 1 1 + n
        · rw [if_pos c5, if_pos c5]
          exact ⟨bt_eq w (by omega), bt_rg w _⟩
        · rw [if_neg c5, if_neg c5]
          exact t3 j j1 (by omega)
      · unfold dPass at d; exact e4 a k (by omega) (by omega) (by omega) (by omega)
      · exact e4 4 3 (by omega) (by omega) (by omega) (by omega)
      · exact e4 a k (by omega) (by omega) (by omega) (by omega)
      · unfold dShow at d; exact e4 a k (by omega) (by omega) (by omega) (by omega)
      · unfold dMark at d; exact e4 a k (by omega) (by omega) (by omega) (by omega)
    · refine bF c (hQ _ _ fun K hK => ?_)
      refine s_isIn (fun _ => n1 ⟨⟨by omega, by omega⟩, bF (by omega) (Ok.use hK ⟨rfl, h⟩)⟩) (fun p => absurd q p)
  · exact s_isIn (fun p => absurd p q) (fun p => n0 (Ok.use hK ⟨rfl, h⟩))
