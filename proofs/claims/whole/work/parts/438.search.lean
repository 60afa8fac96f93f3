/-! ===== part: the class searches ===== -/
/-- the meetings are noted -/
def nt (J : sk_S) (mm : Int → Int → Int → Prop) (n : Int) : Prop := ∀ a b : Int, 0 ≤ a → a < b → b < n → ∃ m : Nat, m < 128 ∧ J 49 (a * 10 + b) = m ∧ ∀ l : Nat, l < 7 → (m.testBit l = true ↔ mm a b ((l : Int) - 3))
theorem nt_cong {I J : sk_S} {mm : Int → Int → Int → Prop} {n : Int} (h : nt I mm n) (e : ∀ k, J 49 k = I 49 k) : nt J mm n := fun a b q1 q2 q3 => by
  rw [e]
  exact h a b q1 q2 q3
theorem bit_or {m l j : Nat} : (m ||| 2 ^ j).testBit l = true ↔ m.testBit l = true ∨ l = j := by
  rw [Nat.testBit_or, Nat.testBit_two_pow]
  cases m.testBit l <;> simp [eq_comm]
theorem s_noteMeetings {n G : Int} {mm : Int → Int → Int → Prop} {Q : sk_S → Prop} {I : sk_S} (e3 : I 47 3 = n) (hn : 0 ≤ n ∧ n ≤ 10)
    (hm : ∀ (J : sk_S) (a b lag : Int) (R : Int → sk_S → Prop), (∀ a k, a ≠ 49 → J a k = I a k) → 0 ≤ a → a < b → b < n → -3 ≤ lag → lag ≤ 3 → (mm a b lag → R 1 J) → (¬ mm a b lag → R 0 J) → M_Pass_meet 44 a b lag G R J)
    (h : ∀ J : sk_S, (∀ a k, a ≠ 49 → J a k = I a k) → nt J mm n → Q J) : M_Parting_noteMeetings 44 G Q I := by
  intro X hX
  have key : ∀ (m : Nat) (a : Int) (J : sk_S), a + m = n → 0 ≤ a → (∀ a k, a ≠ 49 → J a k = I a k) → (∀ a' b : Int, 0 ≤ a' → a' < a → a' < b → b < n → ∃ m : Nat, m < 128 ∧ J 49 (a' * 10 + b) = m ∧ ∀ l : Nat, l < 7 → (m.testBit l = true ↔ mm a' b ((l : Int) - 3))) → X a J := by
    intro m
    induction m with
    | zero =>
      intro a J f1 f2 f3 f4
      obtain rfl : a = n := by omega
      exact hX _ _ (bT (by rw [f3 _ _ (by decide)]; omega) (h J f3 (fun a' b q1 q2 q3 => f4 a' b q1 (by omega) q2 q3)))
    | succ m ih =>
      intro a J f1 f2 f3 f4
      refine hX _ _ (bF (by rw [f3 _ _ (by decide)]; omega) ⟨by omega, nm ?_⟩)
      intro Y hY
      have inner : ∀ (r : Nat) (b : Int) (J : sk_S), b + r = n → a < b → (∀ a k, a ≠ 49 → J a k = I a k) → (∀ a' b' : Int, 0 ≤ a' → (a' < a ∨ (a' = a ∧ b' < b)) → a' < b' → b' < n → ∃ m : Nat, m < 128 ∧ J 49 (a' * 10 + b') = m ∧ ∀ l : Nat, l < 7 → (m.testBit l = true ↔ mm a' b' ((l : Int) - 3))) → Y b J := by
        intro r
        induction r with
        | zero =>
          intro b J g1 g2 g3 g4
          refine hY _ _ (bT (by rw [g3 _ _ (by decide)]; omega) ⟨by omega, nm (ih (a + 1) J (by omega) (by omega) g3 fun a' b' q1 q2 q3 q4 => g4 a' b' q1 (by omega) q3 q4)⟩)
        | succ r ih2 =>
          intro b J g1 g2 g3 g4
          refine hY _ _ (bF (by rw [g3 _ _ (by decide)]; omega) ?_)
          intro Z hZ
          have bits : ∀ (t l m : Nat), t + l = 7 → m < 2 ^ l → (∀ l' : Nat, l' < l → (m.testBit l' = true ↔ mm a b ((l' : Int) - 3))) → Z m ((l : Int) - 3) J := by
            intro t
            induction t with
            | zero =>
              intro l m t1 t2 t3
              obtain rfl : l = 7 := by omega
              refine hZ _ _ _ (bT (by decide) ⟨by omega, s_Row_put (by rw [show (48 : Int) + 1 = 49 from rfl, lnn_49]; omega) ⟨by omega, nm ?_⟩⟩)
              rw [show (48 : Int) + 1 = 49 from rfl]
              refine ih2 (b + 1) _ (by omega) (by omega) (fun a k q => by rw [up_o (by omega)]; exact g3 a k q) (fun a' b' q1 q2 q3 q4 => ?_)
              by_cases c : a' = a ∧ b' = b
              · rw [c.1, c.2, up_h]
                exact ⟨m, by omega, rfl, t3⟩
              · rw [up_o (by omega)]
                exact g4 a' b' q1 (by omega) q3 q4
            | succ t ih3 =>
              intro l m t1 t2 t3
              have hl : l < 7 := by omega
              have pw : 2 ^ l ≤ 64 := by
                have := Nat.pow_le_pow_right (n := 2) (by decide) (show l ≤ 6 by omega)
                omega
              have pw2 : 2 ^ (l + 1) = 2 * 2 ^ l := by rw [Nat.pow_succ, Nat.mul_comm]
              have nxt : ∀ m' : Nat, m' < 2 ^ (l + 1) → (∀ l' : Nat, l' < l + 1 → (m'.testBit l' = true ↔ mm a b ((l' : Int) - 3))) → Z m' ((l : Int) - 3 + 1) J := fun m' q1 q2 => by
                have := ih3 (l + 1) m' (by omega) q1 q2
                rwa [show ((l + 1 : Nat) : Int) - 3 = (l : Int) - 3 + 1 by omega] at this
              have low : m.testBit l = false := Nat.testBit_lt_two_pow t2
              refine hZ _ _ _ (bF (by omega) (hm J a b ((l : Int) - 3) _ g3 f2 g2 (by omega) (by omega) (by omega) (fun q => z1 ?_) (fun q => z0 ⟨by omega, nm (nxt m (by omega) fun l' hl' => ?_)⟩)))
              · rw [show (l : Int) - 3 + 3 = l by omega, b_or0 m (by omega) l (by omega)]
                refine nm ⟨by omega, nm (nxt _ (Nat.or_lt_two_pow (by omega) (by omega)) fun l' hl' => ?_)⟩
                rw [bit_or]
                by_cases c : l' = l
                · subst c
                  exact ⟨fun _ => q, fun _ => Or.inr rfl⟩
                · rw [← t3 l' (by omega)]
                  exact ⟨fun w => w.resolve_right c, Or.inl⟩
              · by_cases c : l' = l
                · subst c
                  rw [low]
                  exact ⟨fun w => absurd w (by decide), fun w => absurd w q⟩
                · exact t3 l' (by omega)
          exact bits 7 0 0 rfl (by decide) (fun l' q => by omega)
      exact inner (n - (a + 1)).toNat (a + 1) J (by omega) (by omega) f3 (fun a' b' q1 q2 q3 q4 => f4 a' b' q1 (by omega) q3 q4)
  exact key n.toNat 0 I (by omega) (by omega) (fun _ _ _ => rfl) (fun a' b q1 q2 => by omega)
/-- what is tried for one: outside of the row nothing -/
def tr (J : sk_S) (i : Int) : Int := if i < 6 then J 51 i else 0
theorem s_tr {i : Int} {Q : Int → sk_S → Prop} {J : sk_S} (hi : 0 ≤ i) (h : Q (tr J i) J) : M_Row_at 50 i Q J := by
  unfold tr at h
  by_cases c : i < 6
  · rw [if_pos c] at h
    exact s_Row_at (by rw [show (50 : Int) + 1 = 51 from rfl, lnn_51]; omega) h
  · rw [if_neg c] at h
    exact s_Row_at0 (by rw [show (50 : Int) + 1 = 51 from rfl, lnn_51]; omega) h
theorem s_doMeet {mm : Int → Int → Int → Prop} {n a b x y : Int} {Q : Int → sk_S → Prop} {J : sk_S} (h : nt J mm n) (hn : n ≤ 10) (ha : 0 ≤ a) (hab : a < b) (hb : b < n) (ex : tr J a = x) (ey : tr J b = y) (hx : 0 ≤ x ∧ x ≤ 3) (hy : 0 ≤ y ∧ y ≤ 3) (h1 : mm a b (y - x) → Q 1 J) (h0 : ¬ mm a b (y - x) → Q 0 J) : M_Parting_doMeet a b Q J := by
  obtain ⟨m, m1, m2, m3⟩ := h a b ha hab hb
  obtain ⟨l, hl⟩ : ∃ l : Nat, y - x + 3 = l := ⟨(y - x + 3).toNat, by omega⟩
  refine s_tr (by omega) (s_tr ha ?_)
  rw [ex, ey]
  refine ⟨by omega, nm ⟨by omega, s_Row_at (by rw [show (48 : Int) + 1 = 49 from rfl, lnn_49]; omega) ?_⟩⟩
  rw [show (48 : Int) + 1 = 49 from rfl, m2, hl, b_bit0 m (by omega) l (by omega)]
  have e := m3 l (by omega)
  rw [show (l : Int) - 3 = y - x by omega] at e
  cases hb : m.testBit l
  · rw [hb] at e
    exact ⟨fun _ => h0 fun w => absurd (e.2 w) (by decide), fun w => absurd w (by decide)⟩
  · exact ⟨fun w => absurd rfl w, fun _ => h1 (e.1 hb)⟩
theorem s_doOthersFit {mm : Int → Int → Int → Prop} {f n : Nat} {Q : Int → sk_S → Prop} {J : sk_S} (h : nt J mm n) (hn : n ≤ 10) (hf : f = 6 ∧ 6 ≤ n ∨ f = n ∧ n < 6) (e3 : J 47 3 = n) (e4 : J 47 4 = f) (h1 : (∀ a b : Int, (f : Int) ≤ a → a < b → b < n → ¬ mm a b 0) → Q 1 J) (h0 : ¬ (∀ a b : Int, (f : Int) ≤ a → a < b → b < n → ¬ mm a b 0) → Q 0 J) : M_Parting_doOthersFit Q J := by
  unfold M_Parting_doOthersFit
  rw [e4]
  refine nm ?_
  intro X hX
  have t0 : ∀ i : Int, (f : Int) ≤ i → i < n → tr J i = 0 := fun i q1 q2 => by unfold tr; rw [if_neg (by omega)]
  have key : ∀ (m : Nat) (a : Int), a + m = n → (f : Int) ≤ a → (∀ a' b : Int, (f : Int) ≤ a' → a' < a → a' < b → b < n → ¬ mm a' b 0) → X a J := by
    intro m
    induction m with
    | zero =>
      intro a q1 q2 q3
      exact hX _ _ (bT (by omega) (h1 fun a' b w1 w2 w3 => q3 a' b w1 (by omega) w2 w3))
    | succ m ih =>
      intro a q1 q2 q3
      refine hX _ _ (bF (by omega) ⟨by omega, nm ?_⟩)
      intro Y hY
      have inner : ∀ (r : Nat) (b : Int), b + r = n → a < b → (∀ b' : Int, a < b' → b' < b → ¬ mm a b' 0) → Y b J := by
        intro r
        induction r with
        | zero =>
          intro b g1 g2 g3
          refine hY _ _ (bT (by omega) ⟨by omega, nm (ih (a + 1) (by omega) (by omega) fun a' b' w1 w2 w3 w4 => ?_)⟩)
          by_cases c : a' = a
          · subst c; exact g3 b' w3 (by omega)
          · exact q3 a' b' w1 (by omega) w3 w4
        | succ r ih2 =>
          intro b g1 g2 g3
          refine hY _ _ (bF (by omega) (s_doMeet h (by omega) (by omega) g2 (by omega) (t0 a q2 (by omega)) (t0 b (by omega) (by omega)) (by decide) (by decide) (fun q => z1 (h0 fun w => w a b q2 g2 (by omega) q)) (fun q => z0 ⟨by omega, nm (ih2 (b + 1) (by omega) (by omega) fun b' w1 w2 => ?_)⟩)))
          by_cases c : b' = b
          · subst c; exact q
          · exact g3 b' w1 (by omega)
      exact inner ((n : Int) - (a + 1)).toNat (a + 1) (by omega) (by omega) (fun b' w1 w2 => by omega)
  exact key (n - f) f (by omega) (by omega) (fun a' b w1 w2 => by omega)
theorem s_doesFit {mm : Int → Int → Int → Prop} {f n k v d : Nat} {Q : Int → sk_S → Prop} {J : sk_S} (h : nt J mm n) (hn : n ≤ 10) (hf : f = 6 ∧ 6 ≤ n ∨ f = n ∧ n < 6) (e3 : J 47 3 = n) (e4 : J 47 4 = f) (hk : k < f) (hd : d < 4) (p : ∀ i : Nat, i < k → J 51 i = dgt k v i) (pk : J 51 k = d) (h1 : fitK mm f n k v d → Q 1 J) (h0 : ¬ fitK mm f n k v d → Q 0 J) : M_Parting_doesFit k Q J := by
  have tk : tr J k = d := by unfold tr; rw [if_pos (by omega)]; exact pk
  intro X hX
  have key : ∀ (m a : Nat), m + a = k → (∀ a' : Nat, a' < a → ¬ mm a' k ((d : Int) - dgt k v a')) → X a J := by
    intro m
    induction m with
    | zero =>
      intro a q1 q2
      obtain rfl : a = k := by omega
      refine hX _ _ (bT (Int.le_refl _) ?_)
      unfold J_Parting_doesFit_24
      rw [e4]
      refine nm ?_
      intro Y hY
      have two : ∀ (r b : Nat), r + b = n → f ≤ b → (∀ b' : Nat, f ≤ b' → b' < b → ¬ mm a b' (0 - (d : Int))) → Y b J := by
        intro r
        induction r with
        | zero =>
          intro b g1 g2 g3
          exact hY _ _ (bT (by omega) (h1 ⟨q2, fun b' w1 w2 => g3 b' w1 (by omega)⟩))
        | succ r ih2 =>
          intro b g1 g2 g3
          refine hY _ _ (bF (by omega) (s_doMeet (x := d) (y := 0) h (by omega) (by omega) (by omega) (by omega) tk (by unfold tr; rw [if_neg (by omega)]) (by omega) (by decide) (fun q => z1 (h0 fun w => w.2 b g2 (by omega) q)) (fun q => z0 ⟨by omega, nm (ih2 (b + 1) (by omega) (by omega) fun b' w1 w2 => ?_)⟩)))
          by_cases c : b' = b
          · subst c; exact q
          · exact g3 b' w1 (by omega)
      exact two (n - f) f (by omega) (Nat.le_refl _) (fun b' w1 w2 => by omega)
    | succ m ih =>
      intro a q1 q2
      have dl := dgt_lt k v a
      refine hX _ _ (bF (by omega) (s_doMeet (x := dgt k v a) (y := d) h (by omega) (by omega) (by omega) (by omega) (by unfold tr; rw [if_pos (by omega)]; exact p a (by omega)) tk (by omega) (by omega) (fun q => z1 (h0 fun w => w.1 a (by omega) q)) (fun q => z0 ⟨by omega, nm (ih (a + 1) (by omega) fun a' w1 => ?_)⟩)))
      by_cases c : a' = a
      · subst c; exact q
      · exact q2 a' (by omega)
  exact key k 0 rfl (fun a' w => by omega)
/-- a search leaves all but its own cells -/
def SI (I J : sk_S) : Prop := ∀ a k : Int, a ≠ 51 → a ≠ 53 → ¬ (a = 47 ∧ k = 5) → J a k = I a k
theorem s_search {mm : Int → Int → Int → Prop} {f n : Nat} {I : sk_S} (h : nt I mm n) (hn : n ≤ 10) (hf : f = 6 ∧ 6 ≤ n ∨ f = n ∧ n < 6) (e3 : I 47 3 = n) (e4 : I 47 4 = f) : ∀ (d k r v : Nat) (J : sk_S) (Q : sk_S → Prop), k + r = f → r < d → SI I J → (∀ i : Nat, i < k → J 51 i = dgt k v i) → pfx mm f n k v → BB mm f n (Hh r v) (J 47 5) (J 53) → (∀ K : sk_S, SI I K → (∀ i : Nat, i < k → K 51 i = dgt k v i) → BB mm f n (Hh r (v + 1)) (K 47 5) (K 53) → Q K) → M_Parting_search d k (Sd k v) Q J := by
  intro d
  induction d with
  | zero => intro k r v J Q h1 h2; omega
  | succ d ihd =>
    intro k r v J Q h1 h2 hS hp hf2 hB hQ
    have j4 : J 47 4 = f := by rw [hS _ _ (by decide) (by decide) (by omega)]; exact e4
    refine ⟨fun c => ⟨fun c1 => ?_, fun c1 => ?_⟩, fun c => ?_⟩
    · obtain ⟨r, rfl⟩ : ∃ r', r = r' + 1 := ⟨r - 1, by omega⟩
      rw [Hh_s] at hB
      intro X hX
      have key : ∀ (m δ : Nat) (K : sk_S), m + δ = 4 → SI I K → (∀ i : Nat, i < k → K 51 i = dgt k v i) → BB mm f n (Hh r (4 * v + δ)) (K 47 5) (K 53) → X δ K := by
        intro m
        induction m with
        | zero =>
          intro δ K q1 q2 q3 q4
          obtain rfl : δ = 4 := by omega
          refine hX _ _ (bT (by decide) (hQ K q2 q3 ?_))
          rw [Hh_s, show 4 * (v + 1) = 4 * v + 4 by omega]
          exact q4
        | succ m ih =>
          intro δ K q1 q2 q3 q4
          have hδ : δ < 4 := by omega
          have sd := Sd_le k v
          refine hX _ _ (bF (by omega) (s_Row_put (by rw [show (50 : Int) + 1 = 51 from rfl, lnn_51]; omega) ?_))
          rw [show (50 : Int) + 1 = 51 from rfl]
          have SU : SI I (up K 51 k δ) := fun a t w1 w2 w3 => by rw [up_o (by omega)]; exact q2 a t w1 w2 w3
          have hN : nt (up K 51 k δ) mm n := nt_cong h fun t => SU _ _ (by decide) (by decide) (by omega)
          have pU : ∀ i : Nat, i < k → (up K 51 k δ) 51 i = dgt k v i := fun i hi => by rw [up_o (by omega)]; exact q3 i hi
          have bU : BB mm f n (Hh r (4 * v + δ)) ((up K 51 k δ) 47 5) ((up K 51 k δ) 53) := by
            have x1 : (up K 51 k δ) 47 5 = K 47 5 := up_o (by omega)
            have x2 : (up K 51 k δ) 53 = K 53 := by funext t; exact up_o (by omega)
            rw [x1, x2]
            exact q4
          have u3 : (up K 51 k δ) 47 3 = n := by rw [SU _ _ (by decide) (by decide) (by omega)]; exact e3
          have u4 : (up K 51 k δ) 47 4 = f := by rw [SU _ _ (by decide) (by decide) (by omega)]; exact e4
          refine s_doesFit hN hn hf u3 u4 (show k < f by omega) hδ pU up_h (fun q => z1 ⟨by omega, by omega, ?_⟩) (fun q => z0 ⟨by omega, nm (ih (δ + 1) _ (by omega) SU pU ?_)⟩)
          · have e := ihd (k + 1) r (4 * v + δ) (up K 51 k δ) (fun I_54 => J_Parting_search_57 (M_Parting_search d) k (Sd k v) δ Q X I_54) (by omega) (by omega) SU (fun i hi => ?_) ((pf_succ hδ).2 ⟨hf2, q⟩) bU (fun M m1 m2 m3 => ⟨by omega, nm (ih (δ + 1) M (by omega) m1 (fun i hi => by rw [← dgt_low hδ hi]; exact m2 i (by omega)) m3)⟩)
            · rw [Sd_ext hδ] at e
              exact e
            · by_cases c : i = k
              · subst c
                rw [dgt_top hδ]
                exact up_h
              · rw [dgt_low hδ (by omega)]
                exact pU i (by omega)
          · have e : k + 1 + r = f := by omega
            exact BB_skip (by omega) (Hh_le _ _) bU (fun c c1 c2 p => absurd ((pf_succ hδ).1 ((under r (k + 1) (4 * v + δ) c c1 c2).1 (by rw [e]; exact p))).2 q)
      exact key 4 0 J rfl hS hp (by rw [Nat.add_zero]; exact hB)
    · -- all the first ones are tried
      obtain rfl : k = f := by omega
      obtain rfl : r = 0 := by omega
      rw [Hh_0] at hB hQ
      intro X hX
      have key : ∀ (m i : Nat) (M : sk_S), m + i = k → (∀ a t, a ≠ 53 → ¬ (a = 47 ∧ t = 5) → M a t = J a t) → M 47 5 = Sd k v → (∀ j : Nat, j < i → M 53 j = dgt k v j) → X i M := by
        intro m
        induction m with
        | zero =>
          intro i M q1 q2 q3 q4
          obtain rfl : i = k := by omega
          refine hX _ _ (bT (by rw [q2 _ _ (by decide) (by omega)]; omega) (hQ M (fun a t w1 w2 w3 => ?_) (fun j hj => ?_) ?_))
          · rw [q2 a t w2 w3]; exact hS a t w1 w2 w3
          · rw [q2 _ _ (by decide) (by omega)]; exact hp j hj
          · rw [q3]
            exact BB_take hB hf2 (by omega) q4
        | succ m ih =>
          intro i M q1 q2 q3 q4
          refine hX _ _ (bF (by rw [q2 _ _ (by decide) (by omega)]; omega) (s_Row_at (by rw [show (50 : Int) + 1 = 51 from rfl, lnn_51]; omega) (s_Row_put (by rw [show (52 : Int) + 1 = 53 from rfl, lnn_53]; omega) ⟨by omega, nm ?_⟩)))
          rw [show (50 : Int) + 1 = 51 from rfl, show (52 : Int) + 1 = 53 from rfl]
          refine ih (i + 1) _ (by omega) (fun a t w1 w2 => by rw [up_o (by omega)]; exact q2 a t w1 w2) (by rw [up_o (by omega)]; exact q3) (fun j hj => ?_)
          by_cases c : j = i
          · subst c
            rw [up_h, q2 _ _ (by decide) (by omega)]
            exact hp j (by omega)
          · rw [up_o (by omega)]
            exact q4 j (by omega)
      exact key k 0 (up J 47 5 (Sd k v)) rfl (fun a t w1 w2 => up_o w2) up_h (fun j hj => absurd hj (Nat.not_lt_zero j))
    · have e : k + r = f := h1
      refine hQ J hS hp (BB_skip (by omega) (Hh_le _ _) hB (fun b c1 c2 p => ?_))
      have := (under (mm := mm) (f := f) (n := n) r k v b c1 c2).2
      rw [e] at this
      omega
