/-! ===== the class looks at two of a pass ===== -/
theorem nearer_end {A B D M E : Int} {Q : Int → sk_S → Prop} {I : sk_S} (hA : 0 ≤ A ∧ A ≤ 1728000000) (hD : -864000000 ≤ D ∧ D ≤ 864000000) (hB : 0 ≤ B ∧ B ≤ 432000000) (hM : 0 ≤ M ∧ M ≤ 36000000) (hE : E = B - 2 * D + A) (h1 : nq A B D M → Q 1 I) (h0 : ¬ nq A B D M → Q 0 I) : ((0 < D → ((D < A → rL ((B - M) * A) ∧ rL (D * D) ∧ ((D * D ≤ (B - M) * A → Q 0 I) ∧ (¬ D * D ≤ (B - M) * A → Q 1 I))) ∧ (¬ D < A → rL E ∧ ((M ≤ E → Q 0 I) ∧ (¬ M ≤ E → Q 1 I))))) ∧ (¬ 0 < D → ((M ≤ B → Q 0 I) ∧ (¬ M ≤ B → Q 1 I)))) := by
  have m1 := mul_ab (a := B - M) (b := A) (A := 468000000) (B := 1728000000) (by omega) (by omega)
  have m2 := mul_ab (a := D) (b := D) (A := 864000000) (B := 864000000) hD hD
  refine ⟨fun c => ⟨fun c2 => ⟨by omega, by omega, fun c3 => h0 fun n => ?_, fun c3 => h1 (nq_0 (Or.inr (Or.inr ⟨c, c2, by omega⟩)))⟩, fun c2 => ⟨by omega, fun c3 => h0 fun n => ?_, fun c3 => h1 (nq_0 (Or.inr (Or.inl (by omega))))⟩⟩, fun c => ⟨fun c3 => h0 fun n => ?_, fun c3 => h1 (nq_0 (Or.inl (by omega)))⟩⟩
  · rcases nq_1 hA.1 n with w | w | w <;> omega
  · rcases nq_1 hA.1 n with w | w | w <;> omega
  · rcases nq_1 hA.1 n with w | w | w <;> omega
theorem near_rg {x y z u v w B S : Int} (hB : 0 ≤ B) (hx : -B ≤ x ∧ x ≤ B) (hy : -B ≤ y ∧ y ≤ B) (hz : -B ≤ z ∧ z ≤ B) (hu : -S ≤ u ∧ u ≤ S) (hv : -S ≤ v ∧ v ≤ S) (hw : -S ≤ w ∧ w ≤ S) : (0 ≤ u * u + v * v + w * w ∧ u * u + v * v + w * w ≤ 3 * (S * S)) ∧ (-(3 * (B * S)) ≤ x * u + y * v + z * w ∧ x * u + y * v + z * w ≤ 3 * (B * S)) ∧ (0 ≤ x * x + y * y + z * z ∧ x * x + y * y + z * z ≤ 3 * (B * B)) := by
  have a1 := sq_le hu.1 hu.2
  have a2 := sq_le hv.1 hv.2
  have a3 := sq_le hw.1 hw.2
  have b1 := sq_le hx.1 hx.2
  have b2 := sq_le hy.1 hy.2
  have b3 := sq_le hz.1 hz.2
  have c1 := mul_ab hx hu
  have c2 := mul_ab hy hv
  have c3 := mul_ab hz hw
  omega
theorem end_eq (x y z u v w : Int) : u * u + v * v + w * w = (x * x + y * y + z * z) - 2 * (-(x * (u - x) + y * (v - y) + z * (w - z))) + ((u - x) * (u - x) + (v - y) * (v - y) + (w - z) * (w - z)) := by grind
theorem s_isNearer {x y z u v w L : Int} {Q : Int → sk_S → Prop} {I : sk_S} (hx : -12000 ≤ x ∧ x ≤ 12000) (hy : -12000 ≤ y ∧ y ≤ 12000) (hz : -12000 ≤ z ∧ z ≤ 12000) (hu : -12000 ≤ u ∧ u ≤ 12000) (hv : -12000 ≤ v ∧ v ≤ 12000) (hw : -12000 ≤ w ∧ w ≤ 12000) (hL : 0 ≤ L ∧ L ≤ 6000) (h1 : nv x y z u v w (L * L) → Q 1 I) (h0 : ¬ nv x y z u v w (L * L) → Q 0 I) : M_Air_isNearer x y z u v w L Q I := by
  have r := near_rg (x := x) (y := y) (z := z) (u := u - x) (v := v - y) (w := w - z) (B := 12000) (S := 24000) (by omega) hx hy hz (by omega) (by omega) (by omega)
  have rM := sq_le (B := 6000) (show -6000 ≤ L by omega) hL.2
  rw [nv_nq] at h1 h0
  have e := end_eq x y z u v w
  unfold M_Air_isNearer
  refine ⟨by omega, nm ⟨by omega, nm ⟨by omega, nm ⟨by omega, nm ⟨by omega, nm ⟨by omega, nm ⟨by omega, nm ?_⟩⟩⟩⟩⟩⟩⟩
  exact nearer_end (by omega) (by omega) (by omega) (by omega) e h1 h0
theorem s_isNear {x y z u v w L : Int} {Q : Int → sk_S → Prop} {I : sk_S} (hx : -12000 ≤ x ∧ x ≤ 12000) (hy : -12000 ≤ y ∧ y ≤ 12000) (hz : -12000 ≤ z ∧ z ≤ 12000) (hu : -12000 ≤ x + u ∧ x + u ≤ 12000) (hv : -12000 ≤ y + v ∧ y + v ≤ 12000) (hw : -12000 ≤ z + w ∧ z + w ≤ 12000) (hL : 0 ≤ L ∧ L ≤ 6000) (h1 : nv x y z (x + u) (y + v) (z + w) (L * L) → Q 1 I) (h0 : ¬ nv x y z (x + u) (y + v) (z + w) (L * L) → Q 0 I) : M_Mo_isNear x y z u v w 1 L Q I := by
  have r := near_rg (x := x) (y := y) (z := z) (u := u) (v := v) (w := w) (B := 12000) (S := 24000) (by omega) hx hy hz (by omega) (by omega) (by omega)
  have rE := near_rg (x := x) (y := y) (z := z) (u := x + u) (v := y + v) (w := z + w) (B := 12000) (S := 12000) (by omega) hx hy hz hu hv hw
  have rM := sq_le (B := 6000) (show -6000 ≤ L by omega) hL.2
  have e := end_eq x y z (x + u) (y + v) (z + w)
  rw [nv_nq] at h1 h0
  rw [show x + u - x = u by omega, show y + v - y = v by omega, show z + w - z = w by omega] at h1 h0 e
  unfold M_Mo_isNear
  rw [Int.mul_one, Int.mul_one, Int.mul_one]
  refine ⟨by omega, nm ?_⟩
  generalize hE : (x + u) * (x + u) + (y + v) * (y + v) + (z + w) * (z + w) = E at *
  generalize hB : x * x + y * y + z * z = B at *
  generalize hA : u * u + v * v + w * w = A at *
  generalize hD : x * u + y * v + z * w = b at *
  generalize hM : L * L = M at *
  have m1 := mul_ab (a := A) (b := B - M) (A := 1728000000) (B := 468000000) (by omega) (by omega)
  have m2 := mul_ab (a := b) (b := b) (A := 864000000) (B := 864000000) (by omega) (by omega)
  have cm : A * (B - M) = (B - M) * A := Int.mul_comm _ _
  have cb : -b * -b = b * b := Int.neg_mul_neg b b
  refine ⟨fun c => ⟨by omega, nm ⟨by omega, nm ⟨by omega, nm ⟨by rw [hE]; omega, by omega, ?_⟩⟩⟩⟩, fun c => h1 (nq_0 (Or.inl (by omega)))⟩
  rw [hE]
  refine ⟨fun c2 => ⟨by omega, nm ⟨by omega, nm ⟨fun c3 => h0 fun n => ?_, fun c3 => ⟨by omega, by rw [Int.mul_one]; omega, ?_⟩⟩⟩⟩, fun c2 => h1 (nq_0 (Or.inr (Or.inl (by omega))))⟩
  · rcases nq_1 (by omega) n with w | w | w <;> omega
  · rw [Int.mul_one]
    refine ⟨fun c4 => h0 fun n => ?_, fun c4 => ⟨by omega, by omega, fun c5 => h0 fun n => ?_, fun c5 => h1 (nq_0 (Or.inr (Or.inr ⟨by omega, by omega, by omega⟩)))⟩⟩
    · rcases nq_1 (by omega) n with w | w | w <;> omega
    · rcases nq_1 (by omega) n with w | w | w <;> omega
/-- how many ticks one has gone at a time -/
def cl (T t : Int) : Int := if t < 0 then 0 else if T < t then T else t
theorem cl_rg {T t : Int} (h : 0 ≤ T) : 0 ≤ cl T t ∧ cl T t ≤ T := by
  unfold cl
  split
  · omega
  · split <;> omega
theorem cl_eq {T t : Int} (h : 0 ≤ T) : imax 0 (imin T t) = cl T t := by
  unfold imax imin cl
  split <;> split <;> split <;> omega
def fd (T : Int) (st sp : Int → Int → Int) (a b lag c t : Int) : Int := (st a c - st b c) * T + sp a c * cl T t - sp b c * cl T (t - lag)
def mtv (T G : Int) (st sp : Int → Int → Int) (a b lag : Int) : Prop := ∃ r : Int, imin 0 lag ≤ r ∧ r < imax 0 lag + T ∧ nvf (fd T st sp a b lag 0) (fd T st sp a b lag 1) (fd T st sp a b lag 2) (G * T * (G * T)) r (r + 1)
/-- one's start and goal lie within the world -/
def inW (st sp : Int → Int → Int) (i : Int) : Prop := ∀ c : Int, 0 ≤ c → c < 3 → (-200 ≤ st i c ∧ st i c ≤ 200) ∧ (-200 ≤ st i c + sp i c ∧ st i c + sp i c ≤ 200)
theorem pos_rg {s d T k : Int} (hT : 0 ≤ T ∧ T ≤ 30) (hk : 0 ≤ k ∧ k ≤ T) (h1 : -200 ≤ s ∧ s ≤ 200) (h2 : -200 ≤ s + d ∧ s + d ≤ 200) : -6000 ≤ s * T + d * k ∧ s * T + d * k ≤ 6000 := by
  have a := mul_rg (a := s) (r := T - k) (A := 200) (R := T - k) h1 (by omega)
  have b := mul_rg (a := s + d) (r := k) (A := 200) (R := k) h2 (by omega)
  have e : s * T + d * k = s * (T - k) + (s + d) * k := by grind
  rw [e]
  omega
theorem fd_eq (T : Int) (st sp : Int → Int → Int) (a b lag c t : Int) : fd T st sp a b lag c t = (st a c * T + sp a c * cl T t) - (st b c * T + sp b c * cl T (t - lag)) := by
  unfold fd
  rw [Int.sub_mul]
  omega
theorem fd_rg {T : Int} {st sp : Int → Int → Int} {a b lag c t : Int} (hT : 0 ≤ T ∧ T ≤ 30) (ha : inW st sp a) (hb : inW st sp b) (hc : 0 ≤ c ∧ c < 3) : -12000 ≤ fd T st sp a b lag c t ∧ fd T st sp a b lag c t ≤ 12000 := by
  rw [fd_eq]
  have p := pos_rg hT (cl_rg (t := t) hT.1) (ha c hc.1 hc.2).1 (ha c hc.1 hc.2).2
  have q := pos_rg hT (cl_rg (t := t - lag) hT.1) (hb c hc.1 hc.2).1 (hb c hc.1 hc.2).2
  omega
def ac (T lag t s : Int) : Prop := ∃ e : Int, ∀ r : Int, t ≤ r → r ≤ s → cl T (r - lag) = cl T (t - lag) + (r - t) * e
theorem ac_of {T lag t s : Int} (hT : 0 ≤ T) (h : s - lag ≤ 0 ∨ (0 ≤ t - lag ∧ s - lag ≤ T) ∨ T ≤ t - lag) : ac T lag t s := by
  rcases h with h | h | h
  · refine ⟨0, fun r r1 r2 => ?_⟩
    rw [Int.mul_zero]
    unfold cl
    split <;> split <;> (try split) <;> (try split) <;> omega
  · refine ⟨1, fun r r1 r2 => ?_⟩
    rw [Int.mul_one]
    unfold cl
    rw [if_neg (by omega), if_neg (by omega), if_neg (by omega), if_neg (by omega)]
    omega
  · refine ⟨0, fun r r1 r2 => ?_⟩
    rw [Int.mul_zero]
    unfold cl
    split <;> split <;> (try split) <;> (try split) <;> omega
theorem af_fd {T : Int} {st sp : Int → Int → Int} {a b lag t s : Int} (c : Int) (h1 : ac T 0 t s) (h2 : ac T lag t s) : af (fd T st sp a b lag c) t s := by
  obtain ⟨e, he⟩ := h1
  obtain ⟨d, hd⟩ := h2
  refine ⟨sp a c * e - sp b c * d, fun r r1 r2 => ?_⟩
  have h1 := he r r1 r2
  have h2 := hd r r1 r2
  rw [Int.sub_zero, Int.sub_zero] at h1
  unfold fd
  rw [h1, h2]
  grind
theorem mtv_three {T G : Int} {st sp : Int → Int → Int} {a b lag : Int} (hT : 1 ≤ T) : (nvf (fd T st sp a b lag 0) (fd T st sp a b lag 1) (fd T st sp a b lag 2) (G * T * (G * T)) (imin 0 lag) (imin (imax 0 lag) (imin 0 lag + T)) ∨ nvf (fd T st sp a b lag 0) (fd T st sp a b lag 1) (fd T st sp a b lag 2) (G * T * (G * T)) (imin (imax 0 lag) (imin 0 lag + T)) (imax (imax 0 lag) (imin 0 lag + T)) ∨ nvf (fd T st sp a b lag 0) (fd T st sp a b lag 1) (fd T st sp a b lag 2) (G * T * (G * T)) (imax (imax 0 lag) (imin 0 lag + T)) (imax 0 lag + T)) ↔ mtv T G st sp a b lag := by
  have e1 : imin 0 lag = 0 ∧ imax 0 lag = lag ∧ 0 ≤ lag ∨ imin 0 lag = lag ∧ imax 0 lag = 0 ∧ lag < 0 := by
    unfold imin imax
    rcases Int.lt_or_le lag 0 with q | q
    · right; rw [if_pos q, if_neg (by omega)]; omega
    · left
      rw [if_neg (by omega)]
      split <;> omega
  unfold mtv
  generalize imin 0 lag = b0 at e1 ⊢
  generalize imax 0 lag = l0 at e1 ⊢
  have e2 : imin l0 (b0 + T) = l0 ∧ imax l0 (b0 + T) = b0 + T ∧ l0 ≤ b0 + T ∨ imin l0 (b0 + T) = b0 + T ∧ imax l0 (b0 + T) = l0 ∧ b0 + T < l0 := by
    unfold imin imax
    rcases Int.lt_or_le (b0 + T) l0 with q | q
    · right; rw [if_pos q, if_neg (by omega)]; omega
    · left
      rw [if_neg (by omega)]
      split <;> omega
  generalize imin l0 (b0 + T) = s0 at e2 ⊢
  generalize imax l0 (b0 + T) = t0 at e2 ⊢
  have A1 : ac T 0 b0 s0 := ac_of (by omega) (by omega)
  have A2 : ac T lag b0 s0 := ac_of (by omega) (by omega)
  have B1 : ac T 0 s0 t0 := ac_of (by omega) (by omega)
  have B2 : ac T lag s0 t0 := ac_of (by omega) (by omega)
  have C1 : ac T 0 t0 (l0 + T) := ac_of (by omega) (by omega)
  have C2 : ac T lag t0 (l0 + T) := ac_of (by omega) (by omega)
  exact nf_three (by omega) (by omega) (by omega) (by omega) (af_fd 0 A1 A2) (af_fd 1 A1 A2) (af_fd 2 A1 A2) (af_fd 0 B1 B2) (af_fd 1 B1 B2) (af_fd 2 B1 B2) (af_fd 0 C1 C2) (af_fd 1 C1 C2) (af_fd 2 C1 C2)
/-- a pass of the class: its starts and steps -/
def stC (I : sk_S) (p i c : Int) : Int := I (p + 2) (i * 8 + c)
def spC (I : sk_S) (p i c : Int) : Int := I (p + 2) (i * 8 + 3 + c)
theorem s_apartC {p a b c t lag : Int} {Q : Int → sk_S → Prop} {I : sk_S} (hp : kd p = 4) (ha : 0 ≤ a ∧ a < 10) (hb : 0 ≤ b ∧ b < 10) (hT : 0 ≤ I p 2 ∧ I p 2 ≤ 30) (wa : inW (stC I p) (spC I p) a) (wb : inW (stC I p) (spC I p) b) (hc : 0 ≤ c ∧ c < 3) (h : Q (fd (I p 2) (stC I p) (spC I p) a b lag c t) I) : M_Pass_apart p a b c t (t - lag) Q I := by
  have l : ln (p + 1 + 1) = 80 := by rw [show p + 1 + 1 = p + 2 by omega]; exact ln4 hp
  have r := fd_rg (t := t) (lag := lag) hT wa wb hc
  have w1 := wa c hc.1 hc.2
  have w2 := wb c hc.1 hc.2
  have k1 := cl_rg (t := t) hT.1
  have k2 := cl_rg (t := t - lag) hT.1
  have m1 := mul_rg (a := spC I p a c) (r := cl (I p 2) t) (A := 400) (R := 30) (by omega) (by omega)
  have m2 := mul_rg (a := spC I p b c) (r := cl (I p 2) (t - lag)) (A := 400) (R := 30) (by omega) (by omega)
  unfold fd at r h
  unfold stC spC at *
  intro v6 e6 v7 e7
  rw [cl_eq hT.1] at e6 e7
  subst e6
  subst e7
  refine ⟨by omega, s_Row_at (by rw [l]; omega) ⟨by omega, s_Row_at (by rw [l]; omega) ?_⟩⟩
  rw [show p + 1 + 1 = p + 2 by omega] at *
  refine ⟨by omega, nm ⟨by omega, s_Row_at (by rw [show p + 1 + 1 = p + 2 by omega, l]; omega) ?_⟩⟩
  rw [show p + 1 + 1 = p + 2 by omega]
  refine ⟨by omega, nm ⟨by omega, s_Row_at (by rw [show p + 1 + 1 = p + 2 by omega, l]; omega) ?_⟩⟩
  rw [show p + 1 + 1 = p + 2 by omega]
  exact ⟨by omega, nm ⟨by omega, h⟩⟩
theorem s_between {p a b lag t s G : Int} {Q : Int → sk_S → Prop} {I : sk_S} (hp : kd p = 4) (ha : 0 ≤ a ∧ a < 10) (hb : 0 ≤ b ∧ b < 10) (hT : 0 ≤ I p 2 ∧ I p 2 ≤ 30) (hG : 0 ≤ G ∧ G ≤ 100) (wa : inW (stC I p) (spC I p) a) (wb : inW (stC I p) (spC I p) b) (ht : rI (t - lag)) (hs : rI (s - lag))
    (h1 : nvf (fd (I p 2) (stC I p) (spC I p) a b lag 0) (fd (I p 2) (stC I p) (spC I p) a b lag 1) (fd (I p 2) (stC I p) (spC I p) a b lag 2) (G * I p 2 * (G * I p 2)) t s → Q 1 I) (h0 : ¬ nvf (fd (I p 2) (stC I p) (spC I p) a b lag 0) (fd (I p 2) (stC I p) (spC I p) a b lag 1) (fd (I p 2) (stC I p) (spC I p) a b lag 2) (G * I p 2 * (G * I p 2)) t s → Q 0 I) : M_Pass_meetBetween p a b lag t s G Q I := by
  have mG := mul_rg (a := G) (r := I p 2) (A := 100) (R := 30) (by omega) hT
  have mG0 := Int.mul_nonneg hG.1 hT.1
  refine ⟨ht, s_apartC hp ha hb hT wa wb (by decide) (s_apartC hp ha hb hT wa wb (by decide) (s_apartC hp ha hb hT wa wb (by decide) ⟨hs, s_apartC hp ha hb hT wa wb (by decide) (s_apartC hp ha hb hT wa wb (by decide) (s_apartC hp ha hb hT wa wb (by decide) ⟨by omega, ?_⟩))⟩))⟩
  exact s_isNearer (fd_rg hT wa wb (by decide)) (fd_rg hT wa wb (by decide)) (fd_rg hT wa wb (by decide)) (fd_rg hT wa wb (by decide)) (fd_rg hT wa wb (by decide)) (fd_rg hT wa wb (by decide)) ⟨mG0, by omega⟩ h1 h0
theorem s_meet {p a b lag G : Int} {Q : Int → sk_S → Prop} {I : sk_S} (hp : kd p = 4) (ha : 0 ≤ a ∧ a < 10) (hb : 0 ≤ b ∧ b < 10) (hT : 1 ≤ I p 2 ∧ I p 2 ≤ 30) (hG : 0 ≤ G ∧ G ≤ 100) (hl : -9 ≤ lag ∧ lag ≤ 9) (wa : inW (stC I p) (spC I p) a) (wb : inW (stC I p) (spC I p) b) (h1 : mtv (I p 2) G (stC I p) (spC I p) a b lag → Q 1 I) (h0 : ¬ mtv (I p 2) G (stC I p) (spC I p) a b lag → Q 0 I) : M_Pass_meet p a b lag G Q I := by
  have hT0 : 0 ≤ I p 2 ∧ I p 2 ≤ 30 := by omega
  rw [← mtv_three hT.1] at h1 h0
  have e1 : -9 ≤ imin 0 lag ∧ imin 0 lag ≤ 0 := by unfold imin; split <;> omega
  have e2 : 0 ≤ imax 0 lag ∧ imax 0 lag ≤ 9 := by unfold imax; split <;> omega
  have e3 : -9 ≤ imin (imax 0 lag) (imin 0 lag + I p 2) ∧ imin (imax 0 lag) (imin 0 lag + I p 2) ≤ 30 := by
    generalize imax 0 lag = l0 at *
    generalize imin 0 lag = b0 at *
    unfold imin; split <;> omega
  have e4 : -9 ≤ imax (imax 0 lag) (imin 0 lag + I p 2) ∧ imax (imax 0 lag) (imin 0 lag + I p 2) ≤ 30 := by
    generalize imin 0 lag = b0 at *
    generalize imax 0 lag = l0 at *
    unfold imax; split <;> omega
  refine nm (nm ⟨by omega, nm (nm (nm (s_between hp ha hb hT0 hG wa wb (by omega) (by omega) (fun n => n1 (h1 (Or.inl n))) (fun n => n0 (s_between hp ha hb hT0 hG wa wb (by omega) (by omega) (fun n2 => n1 (h1 (Or.inr (Or.inl n2)))) (fun n2 => n0 ⟨by omega, s_between hp ha hb hT0 hG wa wb (by omega) (by omega) (fun n3 => z1 (h1 (Or.inr (Or.inr n3)))) (fun n3 => z0 (h0 ?_))⟩))))))⟩)
  rintro (w | w | w)
  · exact n w
  · exact n2 w
  · exact n3 w
