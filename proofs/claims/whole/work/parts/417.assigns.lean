/-! ===== the reference assigns ===== -/
theorem s_greater {a b : Int} {Q : Int → sk_S → Prop} {I : sk_S} (h : Q (imax a b) I) : M_Mo_greater a b Q I := by
  unfold imax at h
  refine ⟨fun q => ?_, fun q => ?_⟩
  · by_cases c : a < b
    · rwa [if_pos c] at h
    · rw [if_neg c] at h
      rwa [show b = a by omega]
  · rwa [if_neg (by omega)] at h
/-- the reference's square of way from i to j of a slot -/
def wM (I : sk_S) (sl i j : Int) : Int := (I 168 (10 * sl + i) - I 171 (10 * sl + j)) * (I 168 (10 * sl + i) - I 171 (10 * sl + j)) + (I 169 (10 * sl + i) - I 172 (10 * sl + j)) * (I 169 (10 * sl + i) - I 172 (10 * sl + j)) + (I 170 (10 * sl + i) - I 173 (10 * sl + j)) * (I 170 (10 * sl + i) - I 173 (10 * sl + j))
def nearM (I : sk_S) (sl i j : Int) : Prop := ∀ c : Int, 0 ≤ c → c < 3 → -400 ≤ I (168 + c) (10 * sl + i) - I (171 + c) (10 * sl + j) ∧ I (168 + c) (10 * sl + i) - I (171 + c) (10 * sl + j) ≤ 400
theorem wM_rg {I : sk_S} {sl i j : Int} (h : nearM I sl i j) : 0 ≤ wM I sl i j ∧ wM I sl i j ≤ 480000 := by
  have h0 := sq400 (h 0 (by omega) (by omega))
  have h1 := sq400 (h 1 (by omega) (by omega))
  have h2 := sq400 (h 2 (by omega) (by omega))
  unfold wM
  rw [show (168 : Int) + 0 = 168 from rfl, show (171 : Int) + 0 = 171 from rfl] at h0
  rw [show (168 : Int) + 1 = 169 from rfl, show (171 : Int) + 1 = 172 from rfl] at h1
  rw [show (168 : Int) + 2 = 170 from rfl, show (171 : Int) + 2 = 173 from rfl] at h2
  omega
theorem s_asB {sl : Int} {w : Nat → Nat → Int} {n : Nat} {Q : Int → sk_S → Prop} {I : sk_S} (hn : n < 11) (hw : Wb w n) (hW : ∀ a b : Nat, a < n → b < n → I 178 (10 * (a : Int) + b) = w a b)
    (h : ∀ J : sk_S, (∀ a k, a ≠ 179 → J a k = I a k) → (∀ t : Nat, t < 2 ^ n → J 179 t = needf w n (n - pop t) t) → J_Mo_assigns_252 sl n Q J) : J_Mo_assigns_130 sl n Q I := by
  have e := b_top n hn
  have hpow : 0 < 2 ^ n := Nat.two_pow_pos n
  have hle : 2 ^ n ≤ 1024 := Nat.pow_le_pow_right (by decide) (show n ≤ 10 by omega)
  unfold J_Mo_assigns_130
  rw [e]
  refine ⟨by omega, nm ?_⟩
  intro X hX
  have key : ∀ (t : Nat) (J : sk_S), t ≤ 2 ^ n → (∀ a k, a ≠ 179 → J a k = I a k) → (∀ s : Nat, t ≤ s → s < 2 ^ n → J 179 s = needf w n (n - pop s) s) → X ((t : Int) - 1) J := by
    intro t
    induction t with
    | zero =>
      intro J h1 h2 h3
      exact hX _ _ (bT (by omega) (h J h2 (fun s hs => h3 s (by omega) hs)))
    | succ t ih =>
      intro J h1 h2 h3
      rw [show ((t + 1 : Nat) : Int) - 1 = t by omega]
      have ht : t < 2 ^ n := by omega
      have h1024 := lt_1024 hn ht
      have hb := b_full0 n hn t ht
      have fin : ∀ K : sk_S, (∀ a k, a ≠ 179 → K a k = I a k) → (∀ s : Nat, t + 1 ≤ s → s < 2 ^ n → K 179 s = needf w n (n - pop s) s) → K 179 t = needf w n (n - pop t) t → J_Mo_assigns_246 sl n t Q X K := by
        intro K k1 k2 k3
        refine ⟨by omega, nm ?_⟩
        rw [show (t : Int) + -1 = (t : Int) - 1 by omega]
        refine ih K (by omega) k1 (fun s q1 q2 => ?_)
        by_cases c : s = t
        · subst c; exact k3
        · exact k2 s (by omega) q2
      refine hX _ _ (bF (by omega) (s_bits h1024 ⟨fun c => ?_, fun c => ?_⟩))
      · -- some may still be taken
        have hpn : pop t < n := by omega
        obtain ⟨r, hr⟩ : ∃ r, n - pop t = r + 1 := ⟨n - pop t - 1, by omega⟩
        refine ⟨by omega, ?_⟩
        intro Y hY
        have inner : ∀ (k j : Nat) (K : sk_S), k + j = n → (∀ a k, a ≠ 179 → K a k = I a k) → (∀ s : Nat, t + 1 ≤ s → s < 2 ^ n → K 179 s = needf w n (n - pop s) s) → K 179 t = mnf (fun j => t.testBit j) (vN w n r t) 1000000000 j → Y j K := by
          intro k
          induction k with
          | zero =>
            intro j K hj k1 k2 k3
            obtain rfl : j = n := by omega
            refine hY _ _ (bT (by omega) (fin K k1 k2 ?_))
            rw [k3, hr, needf_succ]
            obtain ⟨j, j1, j2⟩ := is_free hn ht hpn
            have hv := vN_rg hn hw (r := r) (set := t) (j := j) (by omega) ht (by omega) j1 j2
            exact mnf_caps _ _ ⟨j, j1, j2, by omega, by omega⟩
          | succ k ih2 =>
            intro j K hj k1 k2 k3
            have eb := b_bit0 t h1024 j (by omega)
            refine hY _ _ (bF (by omega) (bF (by omega) ?_))
            rw [eb]
            cases hbit : t.testBit j
            · have hor := pop_or hn ht (by omega : j < n) hbit
              have hlt := or_lt ht (by omega : j < n)
              have hlt2 := lt_1024 hn hlt
              refine nT (by simp) ⟨by omega, by rw [b_or0 t h1024 j (by omega)]; omega, s_greater ?_⟩
              rw [b_or0 t h1024 j (by omega), k1 178 _ (by decide), hW _ _ hpn (by omega), k2 _ (by omega) hlt, hor.1]
              have ev : vN w n r t j = imax (w (pop t) j) (needf w n (n - (pop t + 1)) (t ||| 2 ^ j)) := by
                unfold vN
                rw [show n - (r + 1) = pop t by omega, show n - (pop t + 1) = r by omega]
              rw [← ev]
              have es := mnf_succ (fun j => t.testBit j) (vN w n r t) 1000000000 j
              simp only [hbit] at es
              rw [if_neg (by decide), ← k3] at es
              unfold imin at es
              refine ⟨by omega, fun q => ⟨by omega, nm ?_⟩, fun q => ⟨by omega, by omega, nm ?_⟩⟩
              · rw [if_neg (by omega)] at es
                exact ih2 (j + 1) K (by omega) k1 k2 es.symm
              · rw [if_pos (by omega)] at es
                refine ih2 (j + 1) _ (by omega) (fun a k q' => by rw [up_o (by omega)]; exact k1 a k q') (fun s q1 q2 => by rw [up_o (by omega)]; exact k2 s q1 q2) ?_
                rw [up_h]
                exact es.symm
            · refine nF (by simp) ⟨by omega, nm (ih2 (j + 1) K (by omega) k1 k2 ?_)⟩
              rw [k3, mnf_succ]
              simp only [hbit]
              rfl
        exact inner n 0 _ rfl (fun a k q => by rw [up_o (by omega)]; exact h2 a k q) (fun s q1 q2 => by rw [up_o (by omega)]; exact h3 s q1 q2) (by rw [up_h]; rfl)
      · -- all are taken
        have c' : pop t = n := by omega
        refine ⟨by omega, ?_⟩
        intro Y hY
        have fin2 := fin (up J 179 t 0) (fun a k q => by rw [up_o (by omega)]; exact h2 a k q) (fun s q1 q2 => by rw [up_o (by omega)]; exact h3 s q1 q2) (by rw [up_h, c', Nat.sub_self]; rfl)
        refine hY _ _ ⟨fun _ => fin2, fun q => bT (by omega) fin2⟩
  have := key (2 ^ n) I (Nat.le_refl _) (fun _ _ _ => rfl) (fun s q1 q2 => by omega)
  rwa [show ((2 ^ n : Nat) : Int) - 1 = ((2 ^ n - 1 : Nat) : Int) by omega] at this
theorem s_asC {sl : Int} {w : Nat → Nat → Int} {n : Nat} {Q : Int → sk_S → Prop} {I : sk_S} (hn : n < 11) (hw : Wb w n) (hW : ∀ a b : Nat, a < n → b < n → I 178 (10 * (a : Int) + b) = w a b) (hT : ∀ t : Nat, t < 2 ^ n → I 179 t = needf w n (n - pop t) t)
    (h : ∀ J : sk_S, (∀ a k, a ≠ 180 → J a k = I a k) → (∀ i : Nat, i < n → J 180 i = (goalf w n i : Nat)) → J_Mo_assigns_346 sl n Q J) : J_Mo_assigns_252 sl n Q I := by
  have hpow : 0 < 2 ^ n := Nat.two_pow_pos n
  intro X hX
  have key : ∀ (k i : Nat) (J : sk_S), k + i = n → (∀ a k, a ≠ 180 → J a k = I a k) → (∀ i' : Nat, i' < i → J 180 i' = (goalf w n i' : Nat)) → X (gset w n i : Nat) i J := by
    intro k
    induction k with
    | zero =>
      intro i J h1 h2 h3
      obtain rfl : i = n := by omega
      exact hX _ _ _ (bT (by omega) (h J h2 h3))
    | succ k ih =>
      intro i J h1 h2 h3
      have hG := gset_gG hn hw i (by omega)
      obtain ⟨s1, s2, s3⟩ := gstep_spec hn hw (by omega) hG
      have hs := hG.1
      have hp : pop (gset w n i) = i := hG.2.1
      have h1024 := lt_1024 hn hs
      have e0 : J 179 0 = needf w n n 0 := by
        rw [h2 _ _ (by decide)]
        have := hT 0 hpow
        rwa [show pop 0 = 0 by decide] at this
      refine hX _ _ _ (bF (by omega) ?_)
      intro Y hY
      -- the tables where a goal is free
      have tab : ∀ j : Nat, j < n → (gset w n i).testBit j = false → J 178 (10 * (i : Int) + j) = w i j ∧ J 179 (ior (gset w n i : Nat) (ishl 1 j)) = needf w n (n - (i + 1)) (gset w n i ||| 2 ^ j) ∧ (0 ≤ ior (gset w n i : Nat) (ishl 1 j) ∧ ior (gset w n i : Nat) (ishl 1 j) < 1024) := by
        intro j hj hb
        have hor := pop_or hn hs hj hb
        have hlt := or_lt hs hj
        have hlt2 := lt_1024 hn hlt
        rw [b_or0 _ h1024 j (by omega), h2 _ _ (by decide), h2 _ _ (by decide), hW _ _ (by omega) hj, hT _ hlt, hor.1, hp]
        exact ⟨rfl, rfl, by omega, by omega⟩
      have inner : ∀ (m j : Nat), m + j = gstep w n i (gset w n i) → Y j J := by
        intro m
        induction m with
        | zero =>
          intro j hj
          obtain rfl : j = gstep w n i (gset w n i) := by omega
          have hb := s2.1
          obtain ⟨t1, t2, t3⟩ := tab _ s1 hb
          have h5 := s2.2
          have h6 : w i (gstep w n i (gset w n i)) ≤ needf w n n 0 ∧ needf w n (n - (i + 1)) (gset w n i ||| 2 ^ gstep w n i (gset w n i)) ≤ needf w n n 0 := by
            unfold imax at h5
            split at h5 <;> omega
          refine hY _ _ ⟨fun q => ?_, fun _ => ⟨by omega, by omega, bF (by rw [t1, e0]; omega) ⟨t3, by omega, bT (by rw [t2, e0]; exact h6.2) ⟨by omega, ?_⟩⟩⟩⟩
          · rw [b_bit0 _ h1024 _ (by omega), hb] at q
            exact absurd q (by decide)
          · rw [b_or0 _ h1024 _ (by omega)]
            refine nm ⟨by omega, nm ?_⟩
            have := ih (i + 1) (up J 180 i (gstep w n i (gset w n i) : Nat)) (by omega) (fun a k q => by rw [up_o (by omega)]; exact h2 a k q) (fun i' hi' => by
              by_cases c : i' = i
              · subst c; rw [up_h]; rfl
              · rw [up_o (by omega)]; exact h3 i' (by omega))
            exact this
        | succ m ih2 =>
          intro j hj
          have hlt : j < gstep w n i (gset w n i) := by omega
          have hno := s3 j hlt
          have g := ih2 (j + 1) (by omega)
          have nx : J_Mo_assigns_318 sl n (gset w n i : Nat) i j Q X Y J := ⟨by omega, nm g⟩
          refine hY _ _ ⟨fun _ => nx, fun q => ?_⟩
          cases hb : (gset w n i).testBit j
          · obtain ⟨t1, t2, t3⟩ := tab j (by omega) hb
            refine ⟨by omega, by omega, fun _ => nx, fun q2 => ⟨t3, by omega, fun q3 => ?_, fun _ => nx⟩⟩
            exfalso
            rw [t1, e0] at q2
            rw [t2, e0] at q3
            refine hno ⟨hb, ?_⟩
            unfold imax
            split <;> omega
          · exfalso
            rw [b_bit0 _ h1024 _ (by omega), hb] at q
            exact q (by decide)
      exact inner (gstep w n i (gset w n i)) 0 rfl
  exact key n 0 I rfl (fun _ _ _ => rfl) (fun i hi => absurd hi (Nat.not_lt_zero i))
