/-! ===== the reference assigns: the whole ===== -/
theorem s_assigns {sl : Int} {n : Nat} {w : Nat → Nat → Int} {Q : Int → sk_S → Prop} {I : sk_S} (hsl : 0 ≤ sl ∧ sl < 2) (hn : n < 11) (en : I 176 sl = n) (hr : ∀ i j : Nat, i < n → j < n → nearM I sl i j) (ew : ∀ i j : Nat, i < n → j < n → wM I sl i j = w i j)
    (h : ∀ J : sk_S, (∀ a k, ¬ (178 ≤ a ∧ a ≤ 183) → ¬ (171 ≤ a ∧ a ≤ 173 ∧ 10 * sl ≤ k ∧ k < 10 * sl + n) → J a k = I a k) → (∀ i : Nat, i < n → J 180 i = (goalf w n i : Nat) ∧ ∀ c : Int, 0 ≤ c → c < 3 → J (171 + c) (10 * sl + i) = I (171 + c) (10 * sl + (goalf w n i : Nat))) → Q (needf w n n 0) J) : M_Mo_assigns sl Q I := by
  have hw : Wb w n := fun i j a b => by rw [← ew i j a b]; exact wM_rg (hr i j a b)
  have hpow : 0 < 2 ^ n := Nat.two_pow_pos n
  refine ⟨hsl, ?_⟩
  rw [en]
  refine nm ?_
  intro X hX
  have key : ∀ (k i : Nat) (J : sk_S), k + i = n → (∀ a k, a ≠ 178 → J a k = I a k) → (∀ a b : Nat, a < i → b < n → J 178 (10 * (a : Int) + b) = w a b) → X i J := by
    intro k
    induction k with
    | zero =>
      intro i J h1 h2 h3
      obtain rfl : i = n := by omega
      refine hX _ _ (bT (by omega) (s_asB hn hw h3 (fun K k1 k2 => s_asC hn hw (fun a b c d => by rw [k1 _ _ (by decide)]; exact h3 a b c d) k2 (fun L l1 l2 => ?_))))
      have l0 : L 179 0 = needf w i i 0 := by
        rw [l1 _ _ (by decide)]
        have := k2 0 hpow
        rwa [show pop 0 = 0 by decide] at this
      have lI : ∀ a k, a ≠ 178 → a ≠ 179 → a ≠ 180 → L a k = I a k := fun a k q1 q2 q3 => by rw [l1 a k q3, k1 a k q2, h2 a k q1]
      intro Y hY
      have old : ∀ (m j : Nat) (M : sk_S), m + j = i → (∀ a k, ¬ (181 ≤ a ∧ a ≤ 183) → M a k = L a k) → (∀ b : Nat, b < j → ∀ c : Int, 0 ≤ c → c < 3 → M (181 + c) b = I (171 + c) (10 * sl + b)) → Y j M := by
        intro m
        induction m with
        | zero =>
          intro j M m1 m2 m3
          obtain rfl : j = i := by omega
          refine hY _ _ (bT (by omega) ?_)
          intro Z hZ
          have put : ∀ (m k : Nat) (N : sk_S), m + k = j → (∀ a t, ¬ (171 ≤ a ∧ a ≤ 173 ∧ 10 * sl ≤ t ∧ t < 10 * sl + k) → N a t = M a t) → (∀ b : Nat, b < k → ∀ c : Int, 0 ≤ c → c < 3 → N (171 + c) (10 * sl + b) = I (171 + c) (10 * sl + (goalf w j b : Nat))) → Z k N := by
            intro m
            induction m with
            | zero =>
              intro k N n1 n2 n3
              obtain rfl : k = j := by omega
              have e1 : N 179 0 = needf w k k 0 := by rw [n2 _ _ (by omega), m2 _ _ (by omega)]; exact l0
              refine hZ _ _ (bT (by omega) ⟨by omega, ?_⟩)
              rw [e1]
              refine h N (fun a t q1 q2 => ?_) (fun b hb => ⟨?_, n3 b hb⟩)
              · rw [n2 a t q2, m2 a t (by omega)]
                exact lI a t (by omega) (by omega) (by omega)
              · rw [n2 _ _ (by omega), m2 _ _ (by omega)]
                exact l2 b hb
            | succ m ih3 =>
              intro k N n1 n2 n3
              have hg := goalf_lt hn hw (i := k) (by omega)
              have g0 : ∀ P : sk_S, (∀ a t, ¬ (171 ≤ a ∧ a ≤ 173) → P a t = N a t) → P 180 k = (goalf w j k : Nat) := fun P hP => by
                rw [hP _ _ (by omega), n2 _ _ (by omega), m2 _ _ (by omega)]
                exact l2 k (by omega)
              have o0 : ∀ P : sk_S, (∀ a t, ¬ (171 ≤ a ∧ a ≤ 173) → P a t = N a t) → ∀ c : Int, 0 ≤ c → c < 3 → P (181 + c) (goalf w j k : Nat) = I (171 + c) (10 * sl + (goalf w j k : Nat)) := fun P hP c c1 c2 => by
                rw [hP _ _ (by omega), n2 _ _ (by omega)]
                exact m3 _ hg c c1 c2
              have gN := g0 N (fun _ _ _ => rfl)
              have oN0 := o0 N (fun _ _ _ => rfl) 0 (by decide) (by decide)
              rw [show (181 : Int) + 0 = 181 from rfl, show (171 : Int) + 0 = 171 from rfl] at oN0
              refine hZ _ _ (bF (by omega) ?_)
              rw [gN, oN0]
              have f1 : ∀ a t, ¬ (171 ≤ a ∧ a ≤ 173) → (up N 171 (10 * sl + k) (I 171 (10 * sl + (goalf w j k : Nat)))) a t = N a t := fun a t q => up_o (by omega)
              have gP := g0 _ f1
              have oP := o0 _ f1 1 (by decide) (by decide)
              rw [show (181 : Int) + 1 = 182 from rfl, show (171 : Int) + 1 = 172 from rfl] at oP
              rw [gP, oP]
              have f2 : ∀ a t, ¬ (171 ≤ a ∧ a ≤ 173) → (up (up N 171 (10 * sl + k) (I 171 (10 * sl + (goalf w j k : Nat)))) 172 (10 * sl + k) (I 172 (10 * sl + (goalf w j k : Nat)))) a t = N a t := fun a t q => by rw [up_o (by omega), up_o (by omega)]
              have gR := g0 _ f2
              have oR := o0 _ f2 2 (by decide) (by decide)
              rw [show (181 : Int) + 2 = 183 from rfl, show (171 : Int) + 2 = 173 from rfl] at oR
              rw [gR, oR]
              refine ⟨by omega, by omega, by omega, by omega, by omega, by omega, by omega, by omega, by omega, by omega, nm ?_⟩
              have := ih3 (k + 1) (up (up (up N 171 (10 * sl + k) (I 171 (10 * sl + (goalf w j k : Nat)))) 172 (10 * sl + k) (I 172 (10 * sl + (goalf w j k : Nat)))) 173 (10 * sl + k) (I 173 (10 * sl + (goalf w j k : Nat)))) (by omega) (fun a t q => ?_) (fun b hb c c1 c2 => ?_)
              · exact this
              · rw [up_o (by omega), up_o (by omega), up_o (by omega)]
                exact n2 a t (by omega)
              · by_cases e : b = k
                · subst e
                  rcases (by omega : c = 0 ∨ c = 1 ∨ c = 2) with rfl | rfl | rfl
                  · rw [up_o (by omega), up_o (by omega), show (171 : Int) + 0 = 171 from rfl, up_h]
                  · rw [up_o (by omega), show (171 : Int) + 1 = 172 from rfl, up_h]
                  · rw [show (171 : Int) + 2 = 173 from rfl, up_h]
                · rw [up_o (by omega), up_o (by omega), up_o (by omega)]
                  exact n3 b (by omega) c c1 c2
          exact put j 0 M rfl (fun _ _ _ => rfl) (fun b hb => absurd hb (Nat.not_lt_zero b))
        | succ m ih2 =>
          intro j M m1 m2 m3
          have mI : ∀ a k, 171 ≤ a → a ≤ 173 → M a k = I a k := fun a k q1 q2 => by rw [m2 a k (by omega)]; exact lI a k (by omega) (by omega) (by omega)
          refine hY _ _ (bF (by omega) ⟨by omega, by omega, by omega, by omega, by omega, by omega, by omega, nm ?_⟩)
          have q1 : ∀ v : Int, (up M 181 j v) 172 (10 * sl + j) = I 172 (10 * sl + j) := fun v => by rw [up_o (by omega)]; exact mI _ _ (by omega) (by omega)
          have q2 : ∀ v v' : Int, (up (up M 181 j v) 182 j v') 173 (10 * sl + j) = I 173 (10 * sl + j) := fun v v' => by rw [up_o (by omega), up_o (by omega)]; exact mI _ _ (by omega) (by omega)
          rw [q1, q2, mI 171 _ (by omega) (by omega)]
          have := ih2 (j + 1) (up (up (up M 181 j (I 171 (10 * sl + j))) 182 j (I 172 (10 * sl + j))) 183 j (I 173 (10 * sl + j))) (by omega) (fun a k q => by rw [up_o (by omega), up_o (by omega), up_o (by omega)]; exact m2 a k q) (fun b hb c c1 c2 => ?_)
          · exact this
          · by_cases e : b = j
            · subst e
              rcases (by omega : c = 0 ∨ c = 1 ∨ c = 2) with rfl | rfl | rfl
              · rw [up_o (by omega), up_o (by omega), show (181 : Int) + 0 = 181 from rfl, up_h]; rfl
              · rw [up_o (by omega), show (181 : Int) + 1 = 182 from rfl, up_h]; rfl
              · rw [show (181 : Int) + 2 = 183 from rfl, up_h]; rfl
            · rw [up_o (by omega), up_o (by omega), up_o (by omega)]
              exact m3 b (by omega) c c1 c2
      exact old i 0 L rfl (fun _ _ _ => rfl) (fun b hb => absurd hb (Nat.not_lt_zero b))
    | succ k ih =>
      intro i J h1 h2 h3
      refine hX _ _ (bF (by omega) ?_)
      intro Y hY
      have inner : ∀ (m j : Nat) (J : sk_S), m + j = n → (∀ a k, a ≠ 178 → J a k = I a k) → (∀ a b : Nat, (a < i ∨ (a = i ∧ b < j)) → b < n → J 178 (10 * (a : Int) + b) = w a b) → Y j J := by
        intro m
        induction m with
        | zero =>
          intro j J h1' h2 h3
          exact hY _ _ (bT (by omega) ⟨by omega, nm (ih (i + 1) J (by omega) h2 (fun a b c d => h3 a b (by omega) d))⟩)
        | succ m ih2 =>
          intro j J h1' h2 h3
          have e := ew i j (by omega) (by omega)
          have d0 := hr i j (by omega) (by omega) 0 (by decide) (by decide)
          have d1 := hr i j (by omega) (by omega) 1 (by decide) (by decide)
          have d2 := hr i j (by omega) (by omega) 2 (by decide) (by decide)
          rw [show (168 : Int) + 0 = 168 from rfl, show (171 : Int) + 0 = 171 from rfl] at d0
          rw [show (168 : Int) + 1 = 169 from rfl, show (171 : Int) + 1 = 172 from rfl] at d1
          rw [show (168 : Int) + 2 = 170 from rfl, show (171 : Int) + 2 = 173 from rfl] at d2
          have s0 := sq400 d0
          have s1 := sq400 d1
          have s2 := sq400 d2
          have gw := hw i j (by omega) (by omega)
          rw [← e] at gw
          unfold wM at e gw
          rw [← h2 168 _ (by decide), ← h2 171 _ (by decide)] at d0 s0
          rw [← h2 169 _ (by decide), ← h2 172 _ (by decide)] at d1 s1
          rw [← h2 170 _ (by decide), ← h2 173 _ (by decide)] at d2 s2
          rw [← h2 168 _ (by decide), ← h2 171 _ (by decide), ← h2 169 _ (by decide), ← h2 172 _ (by decide), ← h2 170 _ (by decide), ← h2 173 _ (by decide)] at e gw
          refine hY _ _ (bF (by omega) ⟨by omega, by omega, by omega, by omega, by omega, by omega, by omega, by omega, by omega, by omega, by omega, by omega, by omega, by omega, by omega, nm ?_⟩)
          rw [e]
          refine ih2 (j + 1) _ (by omega) (fun a k q => by rw [up_o (by omega)]; exact h2 a k q) (fun a b c d => ?_)
          by_cases e' : a = i ∧ b = j
          · rw [e'.1, e'.2, up_h]
          · rw [up_o (by omega)]
            exact h3 a b (by omega) d
      exact inner n 0 J rfl h2 (fun a b c d => h3 a b (by omega) d)
  exact key n 0 I rfl (fun _ _ _ => rfl) (fun a b c => absurd c (Nat.not_lt_zero a))
