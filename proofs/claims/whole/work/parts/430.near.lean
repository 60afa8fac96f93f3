/-! ===== nearness: some moment of a straight way ===== -/
theorem mul_ab {a b A B : Int} (ha : -A ≤ a ∧ a ≤ A) (hb : -B ≤ b ∧ b ≤ B) : -(A * B) ≤ a * b ∧ a * b ≤ A * B := by
  have h : (a * b).natAbs ≤ A.toNat * B.toNat := by
    rw [Int.natAbs_mul]
    exact Nat.mul_le_mul (by omega) (by omega)
  have e : (A.toNat * B.toNat : Nat) = A * B := by
    rw [show A = (A.toNat : Int) by omega, show B = (B.toNat : Int) by omega]
    simp
  omega
def nq (A B D M : Int) : Prop := ∃ p q : Int, 0 ≤ p ∧ p ≤ q ∧ 0 < q ∧ q * q * B - 2 * (p * q * D) + p * p * A < q * q * M
theorem nq_1 {A B D M : Int} (hA : 0 ≤ A) (h : nq A B D M) : (D ≤ 0 ∧ B < M) ∨ (0 < D ∧ A ≤ D ∧ B - 2 * D + A < M) ∨ (0 < D ∧ D < A ∧ (B - M) * A < D * D) := by
  obtain ⟨p, q, hp, hpq, hq, h⟩ := h
  have qq : 0 ≤ q * q := Int.mul_nonneg (by omega) (by omega)
  by_cases d : D ≤ 0
  · left
    refine ⟨d, ?_⟩
    have h1 : 0 ≤ p * q * (-D) := Int.mul_nonneg (Int.mul_nonneg hp (by omega)) (by omega)
    have h2 : 0 ≤ p * p * A := Int.mul_nonneg (Int.mul_nonneg hp hp) hA
    rw [Int.mul_neg] at h1
    have h3 : q * q * B < q * q * M := by omega
    exact Int.lt_of_mul_lt_mul_left h3 qq
  · by_cases d2 : A ≤ D
    · right; left
      refine ⟨by omega, d2, ?_⟩
      have h1 : q * A ≤ q * D := Int.mul_le_mul_of_nonneg_left d2 (by omega)
      have h2 : p * A ≤ q * A := Int.mul_le_mul_of_nonneg_right hpq hA
      have h3 : 0 ≤ (q - p) * (2 * (q * D) - q * A - p * A) := Int.mul_nonneg (by omega) (by omega)
      have e : (q - p) * (2 * (q * D) - q * A - p * A) = (q * q * B - 2 * (p * q * D) + p * p * A) - q * q * (B - 2 * D + A) := by grind
      have h4 : q * q * (B - 2 * D + A) < q * q * M := by omega
      exact Int.lt_of_mul_lt_mul_left h4 qq
    · right; right
      refine ⟨by omega, by omega, ?_⟩
      have h1 : A * (q * q * B - 2 * (p * q * D) + p * p * A) < A * (q * q * M) := Int.mul_lt_mul_of_pos_left h (by omega)
      have h2 : 0 ≤ (p * A - q * D) * (p * A - q * D) := by
        rcases Int.le_total 0 (p * A - q * D) with g | g
        · exact Int.mul_nonneg g g
        · rw [← Int.neg_mul_neg]; exact Int.mul_nonneg (by omega) (by omega)
      have e : A * (q * q * B - 2 * (p * q * D) + p * p * A) = (p * A - q * D) * (p * A - q * D) + q * q * (A * B - D * D) := by grind
      have e2 : A * (q * q * M) = q * q * (A * M) := by grind
      have h3 : q * q * (A * B - D * D) < q * q * (A * M) := by omega
      have h4 := Int.lt_of_mul_lt_mul_left h3 qq
      have e3 : (B - M) * A = A * B - A * M := by grind
      omega
theorem nq_0 {A B D M : Int} (h : B < M ∨ B - 2 * D + A < M ∨ (0 < D ∧ D < A ∧ (B - M) * A < D * D)) : nq A B D M := by
  rcases h with h | h | ⟨h1, h2, h3⟩
  · exact ⟨0, 1, by omega, by omega, by omega, by omega⟩
  · exact ⟨1, 1, by omega, by omega, by omega, by omega⟩
  · refine ⟨D, A, by omega, by omega, by omega, ?_⟩
    have h4 : A * ((B - M) * A) < A * (D * D) := Int.mul_lt_mul_of_pos_left h3 (by omega)
    have e1 : A * ((B - M) * A) = A * A * B - A * A * M := by grind
    have e2 : D * A * D = A * (D * D) := by grind
    have e3 : D * D * A = A * (D * D) := by grind
    rw [e2, e3]
    omega
/-- from x y z straight to u v w: some place is nearer to 0 than the root of M -/
def nv (x y z u v w M : Int) : Prop := ∃ p q : Int, 0 ≤ p ∧ p ≤ q ∧ 0 < q ∧ (q * x + p * (u - x)) * (q * x + p * (u - x)) + (q * y + p * (v - y)) * (q * y + p * (v - y)) + (q * z + p * (w - z)) * (q * z + p * (w - z)) < q * q * M
theorem nv_nq {x y z u v w M : Int} : nv x y z u v w M ↔ nq ((u - x) * (u - x) + (v - y) * (v - y) + (w - z) * (w - z)) (x * x + y * y + z * z) (-(x * (u - x) + y * (v - y) + z * (w - z))) M := by
  have e : ∀ p q : Int, (q * x + p * (u - x)) * (q * x + p * (u - x)) + (q * y + p * (v - y)) * (q * y + p * (v - y)) + (q * z + p * (w - z)) * (q * z + p * (w - z)) = q * q * (x * x + y * y + z * z) - 2 * (p * q * (-(x * (u - x) + y * (v - y) + z * (w - z)))) + p * p * ((u - x) * (u - x) + (v - y) * (v - y) + (w - z) * (w - z)) := fun p q => by grind
  unfold nv nq
  simp only [e]
theorem nv_pt {x y z M : Int} (h : nv x y z x y z M) : x * x + y * y + z * z < M := by
  obtain ⟨p, q, hp, hpq, hq, h⟩ := h
  have e : (q * x + p * (x - x)) * (q * x + p * (x - x)) + (q * y + p * (y - y)) * (q * y + p * (y - y)) + (q * z + p * (z - z)) * (q * z + p * (z - z)) = q * q * (x * x + y * y + z * z) := by grind
  rw [e] at h
  exact Int.lt_of_mul_lt_mul_left h (Int.mul_nonneg (by omega) (by omega))
theorem nv_left {x y z u v w M : Int} (h : x * x + y * y + z * z < M) : nv x y z u v w M := by
  refine ⟨0, 1, by omega, by omega, by omega, ?_⟩
  have e : (1 * x + 0 * (u - x)) * (1 * x + 0 * (u - x)) + (1 * y + 0 * (v - y)) * (1 * y + 0 * (v - y)) + (1 * z + 0 * (w - z)) * (1 * z + 0 * (w - z)) = x * x + y * y + z * z := by grind
  rw [e]
  omega
theorem nv_right {x y z u v w M : Int} (h : u * u + v * v + w * w < M) : nv x y z u v w M := by
  refine ⟨1, 1, by omega, by omega, by omega, ?_⟩
  have e : (1 * x + 1 * (u - x)) * (1 * x + 1 * (u - x)) + (1 * y + 1 * (v - y)) * (1 * y + 1 * (v - y)) + (1 * z + 1 * (w - z)) * (1 * z + 1 * (w - z)) = u * u + v * v + w * w := by grind
  rw [e]
  omega
theorem nv_neg1 {x y z u v w M : Int} (h : nv x y z u v w M) : nv (-x) (-y) (-z) (-u) (-v) (-w) M := by
  obtain ⟨p, q, hp, hpq, hq, h⟩ := h
  refine ⟨p, q, hp, hpq, hq, ?_⟩
  have e : (q * -x + p * (-u - -x)) * (q * -x + p * (-u - -x)) + (q * -y + p * (-v - -y)) * (q * -y + p * (-v - -y)) + (q * -z + p * (-w - -z)) * (q * -z + p * (-w - -z)) = (q * x + p * (u - x)) * (q * x + p * (u - x)) + (q * y + p * (v - y)) * (q * y + p * (v - y)) + (q * z + p * (w - z)) * (q * z + p * (w - z)) := by grind
  rw [e]
  exact h
theorem nv_scale {x y z u v w M k : Int} (hk : 0 < k) : nv (k * x) (k * y) (k * z) (k * u) (k * v) (k * w) (k * k * M) ↔ nv x y z u v w M := by
  have e : ∀ p q : Int, (q * (k * x) + p * (k * u - k * x)) * (q * (k * x) + p * (k * u - k * x)) + (q * (k * y) + p * (k * v - k * y)) * (q * (k * y) + p * (k * v - k * y)) + (q * (k * z) + p * (k * w - k * z)) * (q * (k * z) + p * (k * w - k * z)) = k * k * ((q * x + p * (u - x)) * (q * x + p * (u - x)) + (q * y + p * (v - y)) * (q * y + p * (v - y)) + (q * z + p * (w - z)) * (q * z + p * (w - z))) := fun p q => by grind
  have e2 : ∀ q : Int, q * q * (k * k * M) = k * k * (q * q * M) := fun q => by grind
  have kk : 0 < k * k := Int.mul_pos hk hk
  unfold nv
  simp only [e, e2]
  constructor
  · rintro ⟨p, q, hp, hpq, hq, h⟩
    exact ⟨p, q, hp, hpq, hq, Int.lt_of_mul_lt_mul_left h (by omega)⟩
  · rintro ⟨p, q, hp, hpq, hq, h⟩
    exact ⟨p, q, hp, hpq, hq, Int.mul_lt_mul_of_pos_left h kk⟩
theorem sq_0 (x : Int) : 0 ≤ x * x := by
  rcases Int.le_total 0 x with g | g
  · exact Int.mul_nonneg g g
  · rw [← Int.neg_mul_neg]; exact Int.mul_nonneg (by omega) (by omega)
theorem nv_none {x y z u v w M : Int} (hM : M ≤ 0) : ¬ nv x y z u v w M := by
  rintro ⟨p, q, hp, hpq, hq, h⟩
  have a := sq_0 (q * x + p * (u - x))
  have b := sq_0 (q * y + p * (v - y))
  have c := sq_0 (q * z + p * (w - z))
  have d : 0 ≤ q * q * (-M) := Int.mul_nonneg (sq_0 q) (by omega)
  rw [Int.mul_neg] at d
  omega
/-! three places that move: from t to s, evenly -/
def nvf (f g h : Int → Int) (M t s : Int) : Prop := nv (f t) (g t) (h t) (f s) (g s) (h s) M
def af (f : Int → Int) (t s : Int) : Prop := ∃ u : Int, ∀ r : Int, t ≤ r → r ≤ s → f r = f t + (r - t) * u
theorem ax1 {q k r p n F u : Int} (e : q * k + r = p * n) : q * (F + k * u) + r * ((F + (k + 1) * u) - (F + k * u)) = q * F + p * ((F + n * u) - F) := by
  have e2 : q * k * u + r * u = p * n * u := by rw [← Int.add_mul, e]
  have e3 : q * (F + k * u) + r * ((F + (k + 1) * u) - (F + k * u)) = q * F + (q * k * u + r * u) := by grind
  have e4 : q * F + p * ((F + n * u) - F) = q * F + p * n * u := by grind
  rw [e3, e4, e2]
theorem ax2 {q k p n F u : Int} : (n * q) * F + (k * q + p) * ((F + n * u) - F) = n * (q * (F + k * u) + p * ((F + (k + 1) * u) - (F + k * u))) := by grind
theorem nf_split {f g kz : Int → Int} {M t s : Int} (hts : t < s) (hf : af f t s) (hg : af g t s) (hh : af kz t s) : nvf f g kz M t s ↔ ∃ r, t ≤ r ∧ r < s ∧ nvf f g kz M r (r + 1) := by
  obtain ⟨u, hu⟩ := hf
  obtain ⟨v, hv⟩ := hg
  obtain ⟨w, hw⟩ := hh
  have us := hu s (by omega) (by omega)
  have vs := hv s (by omega) (by omega)
  have ws := hw s (by omega) (by omega)
  generalize hn : s - t = n at us vs ws
  constructor
  · rintro ⟨p, q, hp, hpq, hq, h⟩
    rw [us, vs, ws] at h
    have e := Int.mul_ediv_add_emod (p * n) q
    have r0 := Int.emod_nonneg (p * n) (show q ≠ 0 by omega)
    have r1 := Int.emod_lt_of_pos (p * n) hq
    have pn : 0 ≤ p * n := Int.mul_nonneg hp (by omega)
    have k0 := Int.ediv_nonneg pn (show 0 ≤ q by omega)
    generalize p * n / q = k at e k0
    generalize p * n % q = r at e r0 r1
    have pq : p * n ≤ q * n := Int.mul_le_mul_of_nonneg_right hpq (by omega)
    have k1 : k ≤ n := Int.le_of_mul_le_mul_left (show q * k ≤ q * n by omega) hq
    by_cases c : k < n
    · refine ⟨t + k, by omega, by omega, r, q, r0, by omega, hq, ?_⟩
      rw [hu (t + k) (by omega) (by omega), hu (t + k + 1) (by omega) (by omega), hv (t + k) (by omega) (by omega), hv (t + k + 1) (by omega) (by omega), hw (t + k) (by omega) (by omega), hw (t + k + 1) (by omega) (by omega), show t + k - t = k by omega, show t + k + 1 - t = k + 1 by omega, ax1 e, ax1 e, ax1 e]
      exact h
    · obtain rfl : k = n := by omega
      have e0 : p * k = q * k := by omega
      have e1 : p = q := by
        have a := Int.le_of_mul_le_mul_left (a := k) (b := q) (c := p) (by rw [Int.mul_comm k q, Int.mul_comm k p]; omega) (by omega)
        omega
      subst e1
      refine ⟨s - 1, by omega, by omega, p, p, hp, by omega, hq, ?_⟩
      rw [show s - 1 + 1 = s by omega, us, vs, ws]
      have ee : ∀ F G : Int, p * G + p * (F - G) = p * F := fun F G => by grind
      rw [ee, ee, ee] at h
      rw [ee, ee, ee]
      exact h
  · rintro ⟨r, t1, t2, p, q, hp, hpq, hq, h⟩
    rw [hu r (by omega) (by omega), hu (r + 1) (by omega) (by omega), hv r (by omega) (by omega), hv (r + 1) (by omega) (by omega), hw r (by omega) (by omega), hw (r + 1) (by omega) (by omega)] at h
    have hk : r + 1 - t = (r - t) + 1 := by omega
    rw [hk] at h
    generalize hkk : r - t = k at h
    have k0 : 0 ≤ k * q := Int.mul_nonneg (by omega) (by omega)
    have k1 : (k + 1) * q ≤ n * q := Int.mul_le_mul_of_nonneg_right (by omega) (by omega)
    rw [Int.add_mul, Int.one_mul] at k1
    refine ⟨k * q + p, n * q, by omega, by omega, Int.mul_pos (by omega) hq, ?_⟩
    rw [us, vs, ws, ax2, ax2, ax2]
    generalize q * (f t + k * u) + p * (f t + (k + 1) * u - (f t + k * u)) = a at h ⊢
    generalize q * (g t + k * v) + p * (g t + (k + 1) * v - (g t + k * v)) = b at h ⊢
    generalize q * (kz t + k * w) + p * (kz t + (k + 1) * w - (kz t + k * w)) = c at h ⊢
    have e1 : n * a * (n * a) + n * b * (n * b) + n * c * (n * c) = n * n * (a * a + b * b + c * c) := by grind
    have e2 : n * q * (n * q) * M = n * n * (q * q * M) := by grind
    rw [e1, e2]
    exact Int.mul_lt_mul_of_pos_left h (Int.mul_pos (by omega) (by omega))
theorem nf_part {f g h : Int → Int} {M b t s l : Int} (h1 : b ≤ t) (h2 : t ≤ s) (h3 : s ≤ l) (h4 : b < l) (hf : af f t s) (hg : af g t s) (hh : af h t s) (n : nvf f g h M t s) : ∃ r, b ≤ r ∧ r < l ∧ nvf f g h M r (r + 1) := by
  by_cases c : t < s
  · obtain ⟨r, r1, r2, r3⟩ := (nf_split c hf hg hh).1 n
    exact ⟨r, by omega, by omega, r3⟩
  · obtain rfl : t = s := by omega
    have n' := nv_pt n
    by_cases d : t < l
    · exact ⟨t, by omega, by omega, nv_left n'⟩
    · refine ⟨l - 1, by omega, by omega, ?_⟩
      unfold nvf
      rw [show l - 1 + 1 = t by omega]
      exact nv_right n'
theorem nf_three {f g h : Int → Int} {M b s t l : Int} (h1 : b ≤ s) (h2 : s ≤ t) (h3 : t ≤ l) (h4 : b < l) (f1 : af f b s) (g1 : af g b s) (k1 : af h b s) (f2 : af f s t) (g2 : af g s t) (k2 : af h s t) (f3 : af f t l) (g3 : af g t l) (k3 : af h t l) : (nvf f g h M b s ∨ nvf f g h M s t ∨ nvf f g h M t l) ↔ ∃ r, b ≤ r ∧ r < l ∧ nvf f g h M r (r + 1) := by
  constructor
  · rintro (n | n | n)
    · exact nf_part (by omega) h1 (by omega) h4 f1 g1 k1 n
    · exact nf_part (by omega) h2 (by omega) h4 f2 g2 k2 n
    · exact nf_part (by omega) h3 (by omega) h4 f3 g3 k3 n
  · rintro ⟨r, r1, r2, r3⟩
    by_cases c : r < s
    · exact Or.inl ((nf_split (by omega) f1 g1 k1).2 ⟨r, r1, c, r3⟩)
    · by_cases d : r < t
      · exact Or.inr (Or.inl ((nf_split (by omega) f2 g2 k2).2 ⟨r, by omega, d, r3⟩))
      · exact Or.inr (Or.inr ((nf_split (by omega) f3 g3 k3).2 ⟨r, by omega, r2, r3⟩))
