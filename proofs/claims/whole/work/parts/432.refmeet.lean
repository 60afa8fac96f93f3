/-! ===== the reference looks at two of a pass ===== -/
theorem cl_lo {T t : Int} (hT : 0 ≤ T) (h : t ≤ 0) : cl T t = 0 := by
  unfold cl
  split
  · rfl
  · rw [if_neg (by omega)]; omega
theorem cl_hi {T t : Int} (hT : 0 ≤ T) (h : T ≤ t) : cl T t = T := by
  unfold cl
  rw [if_neg (by omega)]
  split <;> omega
theorem cl_in {T t : Int} (h : 0 ≤ t) (h2 : t ≤ T) : cl T t = t := by
  unfold cl
  rw [if_neg (by omega), if_neg (by omega)]
theorem as_c (a b : Int) : a + (b - a) = b := by omega
theorem fd_lo {T : Int} {st sp : Int → Int → Int} {a b lag t : Int} (hT : 0 ≤ T) (h1 : t ≤ 0) (h2 : t ≤ lag) (c : Int) : fd T st sp a b lag c t = (st a c - st b c) * T := by
  unfold fd
  rw [cl_lo hT h1, cl_lo hT (show t - lag ≤ 0 by omega), Int.mul_zero, Int.mul_zero]
  omega
theorem fd_hi {T : Int} {st sp : Int → Int → Int} {a b lag t : Int} (hT : 0 ≤ T) (h1 : T ≤ t) (h2 : T ≤ t - lag) (c : Int) : fd T st sp a b lag c t = (st a c - st b c) * T + sp a c * T - sp b c * T := by
  unfold fd
  rw [cl_hi hT h1, cl_hi hT h2]
theorem imin_0 (lag : Int) : (imin 0 lag = 0 ∧ imax 0 lag = lag ∧ 0 ≤ lag) ∨ (imin 0 lag = lag ∧ imax 0 lag = 0 ∧ lag < 0) := by
  unfold imin imax
  rcases Int.lt_or_le lag 0 with q | q
  · right; rw [if_pos q, if_neg (by omega)]; omega
  · left
    rw [if_neg (by omega)]
    split <;> omega
theorem abs_rel {T G : Int} {st sp : Int → Int → Int} {i j wi wj : Int} (hT : 1 ≤ T) (hi : 0 ≤ wi ∧ wi ≤ 9) (hj : 0 ≤ wj ∧ wj ≤ 9) : (∃ t : Int, 0 ≤ t ∧ t < T + 9 ∧ nvf (fd T st sp i j (wj - wi) 0) (fd T st sp i j (wj - wi) 1) (fd T st sp i j (wj - wi) 2) (G * T * (G * T)) (t - wi) (t + 1 - wi)) ↔ mtv T G st sp i j (wj - wi) := by
  have e := imin_0 (wj - wi)
  unfold mtv
  generalize imin 0 (wj - wi) = b at e ⊢
  generalize imax 0 (wj - wi) = l at e ⊢
  constructor
  · rintro ⟨t, t1, t2, n⟩
    by_cases c1 : t - wi < b
    · refine ⟨b, by omega, by omega, ?_⟩
      unfold nvf at n ⊢
      rw [fd_lo (t := t - wi) (by omega) (by omega) (by omega), fd_lo (t := t - wi) (by omega) (by omega) (by omega), fd_lo (t := t - wi) (by omega) (by omega) (by omega), fd_lo (t := t + 1 - wi) (by omega) (by omega) (by omega), fd_lo (t := t + 1 - wi) (by omega) (by omega) (by omega), fd_lo (t := t + 1 - wi) (by omega) (by omega) (by omega)] at n
      have n2 := nv_pt n
      rw [fd_lo (t := b) (by omega) (by omega) (by omega), fd_lo (t := b) (by omega) (by omega) (by omega), fd_lo (t := b) (by omega) (by omega) (by omega)]
      exact nv_left n2
    · by_cases c2 : t - wi < l + T
      · refine ⟨t - wi, by omega, c2, ?_⟩
        rw [show t - wi + 1 = t + 1 - wi by omega]
        exact n
      · refine ⟨l + T - 1, by omega, by omega, ?_⟩
        rw [show l + T - 1 + 1 = l + T by omega]
        unfold nvf at n ⊢
        rw [fd_hi (t := t - wi) (by omega) (by omega) (by omega), fd_hi (t := t - wi) (by omega) (by omega) (by omega), fd_hi (t := t - wi) (by omega) (by omega) (by omega), fd_hi (t := t + 1 - wi) (by omega) (by omega) (by omega), fd_hi (t := t + 1 - wi) (by omega) (by omega) (by omega), fd_hi (t := t + 1 - wi) (by omega) (by omega) (by omega)] at n
        have n2 := nv_pt n
        rw [fd_hi (t := l + T) (by omega) (by omega) (by omega), fd_hi (t := l + T) (by omega) (by omega) (by omega), fd_hi (t := l + T) (by omega) (by omega) (by omega)]
        exact nv_right n2
  · rintro ⟨r, r1, r2, n⟩
    refine ⟨r + wi, by omega, by omega, ?_⟩
    rw [show r + wi - wi = r by omega, show r + wi + 1 - wi = r + 1 by omega]
    exact n
theorem mtv_sym1 {T G : Int} {st sp : Int → Int → Int} {a b lag : Int} (h : mtv T G st sp a b lag) : mtv T G st sp b a (-lag) := by
  obtain ⟨r, r1, r2, n⟩ := h
  have e := imin_0 lag
  have e2 := imin_0 (-lag)
  have k : ∀ c t : Int, fd T st sp b a (-lag) c (t - lag) = -fd T st sp a b lag c t := fun c t => by
    unfold fd
    rw [show t - lag - -lag = t by omega]
    grind
  refine ⟨r - lag, by omega, by omega, ?_⟩
  unfold nvf at *
  rw [show r - lag + 1 = r + 1 - lag by omega, k, k, k, k, k, k]
  exact nv_neg1 n
theorem mtv_sym {T G : Int} {st sp : Int → Int → Int} {a b lag lag' : Int} (e : lag' = -lag) : mtv T G st sp a b lag ↔ mtv T G st sp b a lag' := by
  subst e
  refine ⟨mtv_sym1, fun h => ?_⟩
  have := mtv_sym1 h
  rwa [Int.neg_neg] at this
theorem mtv_cong {T G : Int} {st sp st' sp' : Int → Int → Int} {a b lag : Int} (ha : ∀ c : Int, 0 ≤ c → c < 3 → st a c = st' a c ∧ sp a c = sp' a c) (hb : ∀ c : Int, 0 ≤ c → c < 3 → st b c = st' b c ∧ sp b c = sp' b c) : mtv T G st sp a b lag ↔ mtv T G st' sp' a b lag := by
  have k : ∀ c : Int, 0 ≤ c → c < 3 → fd T st sp a b lag c = fd T st' sp' a b lag c := fun c c1 c2 => by
    funext t
    unfold fd
    rw [(ha c c1 c2).1, (ha c c1 c2).2, (hb c c1 c2).1, (hb c c1 c2).2]
  unfold mtv
  rw [k 0 (by decide) (by decide), k 1 (by decide) (by decide), k 2 (by decide) (by decide)]
def stM (I : sk_S) (sl i c : Int) : Int := I (168 + c) (10 * sl + i)
def spM (I : sk_S) (sl i c : Int) : Int := I (171 + c) (10 * sl + i) - I (168 + c) (10 * sl + i)
def wtM (I : sk_S) (sl i : Int) : Int := I 174 (10 * sl + i)
def psM (I : sk_S) (sl i T c t : Int) : Int := T * stM I sl i c + spM I sl i c * cl T (t - wtM I sl i)
theorem psM_rg {I : sk_S} {sl i T c t : Int} (hT : 0 ≤ T ∧ T ≤ 30) (hi : inW (stM I sl) (spM I sl) i) (hc : 0 ≤ c ∧ c < 3) : -6000 ≤ psM I sl i T c t ∧ psM I sl i T c t ≤ 6000 := by
  have p := pos_rg hT (cl_rg (t := t - wtM I sl i) hT.1) (hi c hc.1 hc.2).1 (hi c hc.1 hc.2).2
  unfold psM
  rw [Int.mul_comm T]
  exact p
theorem s_gone {k t T : Int} {Q : Int → sk_S → Prop} {I : sk_S} (hk : 0 ≤ k ∧ k < 20) (hw : 0 ≤ I 174 k ∧ I 174 k ≤ 9) (hT : 0 ≤ T ∧ T ≤ 30) (ht : 0 ≤ t ∧ t ≤ 50) (h : Q (cl T (t - I 174 k)) I) : M_Mo_gone k t T Q I := by
  refine ⟨hk, fun q => ⟨hk, by omega, fun q2 => ⟨hk, by omega, ?_⟩, fun q2 => ?_⟩, fun q => ?_⟩
  · rwa [cl_in (by omega) (by omega)] at h
  · rwa [cl_hi hT.1 (by omega)] at h
  · rwa [cl_lo hT.1 (by omega)] at h
theorem s_placeX {sl i t T : Int} {Q : Int → sk_S → Prop} {I : sk_S} (hk : 0 ≤ 10 * sl + i ∧ 10 * sl + i < 20) (hw : 0 ≤ wtM I sl i ∧ wtM I sl i ≤ 9) (hT : 0 ≤ T ∧ T ≤ 30) (ht : 0 ≤ t ∧ t ≤ 50) (hi : inW (stM I sl) (spM I sl) i) (h : Q (psM I sl i T 0 t) I) : M_Mo_placeX (10 * sl + i) t T Q I := by
  have r := psM_rg (t := t) hT hi (c := 0) (by decide)
  refine ⟨hk, hk, hk, s_gone hk hw hT ht ⟨?_, h⟩⟩
  show rI (psM I sl i T 0 t)
  omega
theorem s_placeY {sl i t T : Int} {Q : Int → sk_S → Prop} {I : sk_S} (hk : 0 ≤ 10 * sl + i ∧ 10 * sl + i < 20) (hw : 0 ≤ wtM I sl i ∧ wtM I sl i ≤ 9) (hT : 0 ≤ T ∧ T ≤ 30) (ht : 0 ≤ t ∧ t ≤ 50) (hi : inW (stM I sl) (spM I sl) i) (h : Q (psM I sl i T 1 t) I) : M_Mo_placeY (10 * sl + i) t T Q I := by
  have r := psM_rg (t := t) hT hi (c := 1) (by decide)
  refine ⟨hk, hk, hk, s_gone hk hw hT ht ⟨?_, h⟩⟩
  show rI (psM I sl i T 1 t)
  omega
theorem s_placeZ {sl i t T : Int} {Q : Int → sk_S → Prop} {I : sk_S} (hk : 0 ≤ 10 * sl + i ∧ 10 * sl + i < 20) (hw : 0 ≤ wtM I sl i ∧ wtM I sl i ≤ 9) (hT : 0 ≤ T ∧ T ≤ 30) (ht : 0 ≤ t ∧ t ≤ 50) (hi : inW (stM I sl) (spM I sl) i) (h : Q (psM I sl i T 2 t) I) : M_Mo_placeZ (10 * sl + i) t T Q I := by
  have r := psM_rg (t := t) hT hi (c := 2) (by decide)
  refine ⟨hk, hk, hk, s_gone hk hw hT ht ⟨?_, h⟩⟩
  show rI (psM I sl i T 2 t)
  omega
def fM (I : sk_S) (sl i j T c t : Int) : Int := psM I sl i T c t - psM I sl j T c t
theorem fM_fd (I : sk_S) (sl i j T c t : Int) : fM I sl i j T c t = fd T (stM I sl) (spM I sl) i j (wtM I sl j - wtM I sl i) c (t - wtM I sl i) := by
  rw [fd_eq]
  unfold fM psM
  rw [show t - wtM I sl i - (wtM I sl j - wtM I sl i) = t - wtM I sl j by omega, Int.mul_comm T (stM I sl i c), Int.mul_comm T (stM I sl j c)]
theorem s_Mo_clash {sl i j T : Int} {Q : Int → sk_S → Prop} {I : sk_S} (hi : 0 ≤ 10 * sl + i ∧ 10 * sl + i < 20) (hj : 0 ≤ 10 * sl + j ∧ 10 * sl + j < 20) (hT : 1 ≤ T ∧ T ≤ 30) (hG : 0 ≤ I 158 10 ∧ I 158 10 ≤ 100) (ti : 0 ≤ wtM I sl i ∧ wtM I sl i ≤ 9) (tj : 0 ≤ wtM I sl j ∧ wtM I sl j ≤ 9) (wi : inW (stM I sl) (spM I sl) i) (wj : inW (stM I sl) (spM I sl) j)
    (h1 : mtv T (I 158 10) (stM I sl) (spM I sl) i j (wtM I sl j - wtM I sl i) → Q 1 I) (h0 : ¬ mtv T (I 158 10) (stM I sl) (spM I sl) i j (wtM I sl j - wtM I sl i) → Q 0 I) : M_Mo_clash (10 * sl + i) (10 * sl + j) T Q I := by
  have hT0 : 0 ≤ T ∧ T ≤ 30 := by omega
  rw [← abs_rel hT.1 ti tj] at h1 h0
  have mG := mul_rg (a := I 158 10) (r := T) (A := 100) (R := 30) (by omega) hT0
  have mG0 := Int.mul_nonneg hG.1 hT0.1
  intro X hX
  have key : ∀ (m : Nat) (t : Int), t + m = T + 9 → 0 ≤ t → (¬ ∃ s : Int, 0 ≤ s ∧ s < t ∧ nvf (fd T (stM I sl) (spM I sl) i j (wtM I sl j - wtM I sl i) 0) (fd T (stM I sl) (spM I sl) i j (wtM I sl j - wtM I sl i) 1) (fd T (stM I sl) (spM I sl) i j (wtM I sl j - wtM I sl i) 2) (I 158 10 * T * (I 158 10 * T)) (s - wtM I sl i) (s + 1 - wtM I sl i)) → X t I := by
    intro m
    induction m with
    | zero =>
      intro t e1 e2 e3
      obtain rfl : t = T + 9 := by omega
      exact hX _ _ ⟨by omega, bT (by omega) (h0 e3)⟩
    | succ m ih =>
      intro t e1 e2 e3
      have p : ∀ c s : Int, 0 ≤ c → c < 3 → -6000 ≤ psM I sl i T c s ∧ psM I sl i T c s ≤ 6000 := fun c s c1 c2 => psM_rg hT0 wi ⟨c1, c2⟩
      have q : ∀ c s : Int, 0 ≤ c → c < 3 → -6000 ≤ psM I sl j T c s ∧ psM I sl j T c s ≤ 6000 := fun c s c1 c2 => psM_rg hT0 wj ⟨c1, c2⟩
      have p0 := p 0 t (by decide) (by decide)
      have p1 := p 1 t (by decide) (by decide)
      have p2 := p 2 t (by decide) (by decide)
      have p3 := p 0 (t + 1) (by decide) (by decide)
      have p4 := p 1 (t + 1) (by decide) (by decide)
      have p5 := p 2 (t + 1) (by decide) (by decide)
      have q0 := q 0 t (by decide) (by decide)
      have q1 := q 1 t (by decide) (by decide)
      have q2 := q 2 t (by decide) (by decide)
      have q3 := q 0 (t + 1) (by decide) (by decide)
      have q4 := q 1 (t + 1) (by decide) (by decide)
      have q5 := q 2 (t + 1) (by decide) (by decide)
      have a1 : 0 ≤ t ∧ t ≤ 50 := by omega
      have a2 : 0 ≤ t + 1 ∧ t + 1 ≤ 50 := by omega
      refine hX _ _ ⟨by omega, bF (by omega) (s_placeX hi ti hT0 a1 wi (s_placeX hj tj hT0 a1 wj ⟨by omega, nm (s_placeY hi ti hT0 a1 wi (s_placeY hj tj hT0 a1 wj ⟨by omega, nm (s_placeZ hi ti hT0 a1 wi (s_placeZ hj tj hT0 a1 wj ⟨by omega, nm ⟨by omega, s_placeX hi ti hT0 a2 wi (s_placeX hj tj hT0 a2 wj ⟨by omega, nm (s_placeY hi ti hT0 a2 wi (s_placeY hj tj hT0 a2 wj ⟨by omega, nm (s_placeZ hi ti hT0 a2 wi (s_placeZ hj tj hT0 a2 wj ⟨by omega, nm ⟨by omega, ?_⟩⟩))⟩))⟩)⟩⟩))⟩))⟩))⟩
      have nn : nv (psM I sl i T 0 t - psM I sl j T 0 t) (psM I sl i T 1 t - psM I sl j T 1 t) (psM I sl i T 2 t - psM I sl j T 2 t) (psM I sl i T 0 (t + 1) - psM I sl j T 0 (t + 1)) (psM I sl i T 1 (t + 1) - psM I sl j T 1 (t + 1)) (psM I sl i T 2 (t + 1) - psM I sl j T 2 (t + 1)) (I 158 10 * T * (I 158 10 * T)) ↔ nvf (fd T (stM I sl) (spM I sl) i j (wtM I sl j - wtM I sl i) 0) (fd T (stM I sl) (spM I sl) i j (wtM I sl j - wtM I sl i) 1) (fd T (stM I sl) (spM I sl) i j (wtM I sl j - wtM I sl i) 2) (I 158 10 * T * (I 158 10 * T)) (t - wtM I sl i) (t + 1 - wtM I sl i) := by
        unfold nvf
        rw [← fM_fd, ← fM_fd, ← fM_fd, ← fM_fd, ← fM_fd, ← fM_fd]
        exact Iff.rfl
      refine s_isNear (by omega) (by omega) (by omega) (by omega) (by omega) (by omega) ⟨mG0, by omega⟩ (fun n => z1 (h1 ⟨t, e2, by omega, ?_⟩)) (fun n => z0 (nm (ih (t + 1) (by omega) (by omega) ?_)))
      · rw [as_c, as_c, as_c] at n
        exact nn.1 n
      · rw [as_c, as_c, as_c] at n
        rintro ⟨s, s1, s2, s3⟩
        by_cases c : s = t
        · subst c; exact n (nn.2 s3)
        · exact e3 ⟨s, s1, by omega, s3⟩
  exact key (T + 9).toNat 0 (by omega) (by omega) (fun ⟨s, s1, s2, _⟩ => by omega)
/-! the zone -/
def znv (st sp : Int → Int → Int) (zx zy R i : Int) : Prop := nv (st i 0 - zx) (st i 1 - zy) 0 (st i 0 + sp i 0 - zx) (st i 1 + sp i 1 - zy) 0 (R * R)
theorem znv_cong {st sp st' sp' : Int → Int → Int} {zx zy R i : Int} (ha : ∀ c : Int, 0 ≤ c → c < 3 → st i c = st' i c ∧ sp i c = sp' i c) : znv st sp zx zy R i ↔ znv st' sp' zx zy R i := by
  unfold znv
  rw [(ha 0 (by decide) (by decide)).1, (ha 0 (by decide) (by decide)).2, (ha 1 (by decide) (by decide)).1, (ha 1 (by decide) (by decide)).2]
theorem win_iff {f g h : Int → Int} {M w T N : Int} (hT : 0 < T) (hw : 0 ≤ w) (hN : w + T ≤ N) (lo : ∀ t : Int, t ≤ w → f t = f w ∧ g t = g w ∧ h t = h w) (hi : ∀ t : Int, w + T ≤ t → f t = f (w + T) ∧ g t = g (w + T) ∧ h t = h (w + T)) (af1 : af f w (w + T)) (af2 : af g w (w + T)) (af3 : af h w (w + T)) : (∃ t : Int, 0 ≤ t ∧ t < N ∧ nvf f g h M t (t + 1)) ↔ nvf f g h M w (w + T) := by
  constructor
  · rintro ⟨t, t1, t2, n⟩
    by_cases c : t < w
    · unfold nvf at n ⊢
      obtain ⟨x1, x2, x3⟩ := lo t (by omega)
      obtain ⟨y1, y2, y3⟩ := lo (t + 1) (by omega)
      rw [x1, x2, x3, y1, y2, y3] at n
      exact nv_left (nv_pt n)
    · by_cases d : t < w + T
      · exact (nf_split (by omega) af1 af2 af3).2 ⟨t, by omega, d, n⟩
      · unfold nvf at n ⊢
        obtain ⟨x1, x2, x3⟩ := hi t (by omega)
        obtain ⟨y1, y2, y3⟩ := hi (t + 1) (by omega)
        rw [x1, x2, x3, y1, y2, y3] at n
        exact nv_right (nv_pt n)
  · intro n
    obtain ⟨r, r1, r2, r3⟩ := (nf_split (by omega) af1 af2 af3).1 n
    exact ⟨r, by omega, by omega, r3⟩
def gz (I : sk_S) (sl i T c z t : Int) : Int := psM I sl i T c t - T * z
theorem gz_lo {I : sk_S} {sl i T c z t : Int} (hT : 0 ≤ T) (h : t ≤ wtM I sl i) : gz I sl i T c z t = T * (stM I sl i c - z) := by
  unfold gz psM
  rw [cl_lo hT (by omega), Int.mul_zero, Int.mul_sub]
  omega
theorem gz_hi {I : sk_S} {sl i T c z t : Int} (hT : 0 ≤ T) (h : wtM I sl i + T ≤ t) : gz I sl i T c z t = T * (stM I sl i c + spM I sl i c - z) := by
  unfold gz psM
  rw [cl_hi hT (by omega)]
  grind
theorem gz_af {I : sk_S} {sl i T : Int} (c z : Int) (hT : 0 ≤ T) : af (gz I sl i T c z) (wtM I sl i) (wtM I sl i + T) := by
  refine ⟨spM I sl i c, fun r r1 r2 => ?_⟩
  rw [gz_lo hT (Int.le_refl _)]
  unfold gz psM
  rw [cl_in (by omega) (by omega)]
  grind
theorem zone_abs {I : sk_S} {sl i T zx zy R : Int} (hT : 1 ≤ T) (hw : 0 ≤ wtM I sl i ∧ wtM I sl i ≤ 9) : (∃ t : Int, 0 ≤ t ∧ t < T + 9 ∧ nvf (gz I sl i T 0 zx) (gz I sl i T 1 zy) (fun _ => 0) (R * T * (R * T)) t (t + 1)) ↔ znv (stM I sl) (spM I sl) zx zy R i := by
  have hT0 : 0 ≤ T := by omega
  rw [win_iff (w := wtM I sl i) (T := T) (by omega) hw.1 (by omega) (fun t h => ⟨by rw [gz_lo hT0 h, gz_lo hT0 (Int.le_refl _)], by rw [gz_lo hT0 h, gz_lo hT0 (Int.le_refl _)], rfl⟩) (fun t h => ⟨by rw [gz_hi hT0 h, gz_hi hT0 (Int.le_refl _)], by rw [gz_hi hT0 h, gz_hi hT0 (Int.le_refl _)], rfl⟩) (gz_af 0 zx hT0) (gz_af 1 zy hT0) ⟨0, fun r _ _ => by simp⟩]
  unfold nvf znv
  rw [gz_lo hT0 (Int.le_refl _), gz_lo hT0 (Int.le_refl _), gz_hi hT0 (Int.le_refl _), gz_hi hT0 (Int.le_refl _)]
  have e1 : R * T * (R * T) = T * T * (R * R) := by grind
  have s := nv_scale (x := stM I sl i 0 - zx) (y := stM I sl i 1 - zy) (z := 0) (u := stM I sl i 0 + spM I sl i 0 - zx) (v := stM I sl i 1 + spM I sl i 1 - zy) (w := 0) (M := R * R) (k := T) (by omega)
  rw [Int.mul_zero] at s
  rw [e1]
  exact s
theorem s_Mo_enters {sl i T : Int} {Q : Int → sk_S → Prop} {I : sk_S} (hi : 0 ≤ 10 * sl + i ∧ 10 * sl + i < 20) (hT : 1 ≤ T ∧ T ≤ 30) (hx : -200 ≤ I 158 11 ∧ I 158 11 ≤ 200) (hy : -200 ≤ I 158 12 ∧ I 158 12 ≤ 200) (hR : 0 ≤ I 158 13 ∧ I 158 13 ≤ 200) (ti : 0 ≤ wtM I sl i ∧ wtM I sl i ≤ 9) (wi : inW (stM I sl) (spM I sl) i)
    (h1 : znv (stM I sl) (spM I sl) (I 158 11) (I 158 12) (I 158 13) i → Q 1 I) (h0 : ¬ znv (stM I sl) (spM I sl) (I 158 11) (I 158 12) (I 158 13) i → Q 0 I) : M_Mo_enters (10 * sl + i) T Q I := by
  have hT0 : 0 ≤ T ∧ T ≤ 30 := by omega
  have mR := mul_rg (a := I 158 13) (r := T) (A := 200) (R := 30) (by omega) hT0
  have mx := mul_ab (a := T) (b := I 158 11) (A := 30) (B := 200) (by omega) hx
  have my := mul_ab (a := T) (b := I 158 12) (A := 30) (B := 200) (by omega) hy
  by_cases r0 : I 158 13 ≤ 0
  · have no : ¬ znv (stM I sl) (spM I sl) (I 158 11) (I 158 12) (I 158 13) i := nv_none (by rw [show I 158 13 = 0 by omega]; decide)
    intro X hX
    exact hX _ _ ⟨by omega, bF (by omega) (bT r0 (h0 no))⟩
  · rw [← zone_abs hT.1 ti] at h1 h0
    intro X hX
    have key : ∀ (m : Nat) (t : Int), t + m = T + 9 → 0 ≤ t → (¬ ∃ s : Int, 0 ≤ s ∧ s < t ∧ nvf (gz I sl i T 0 (I 158 11)) (gz I sl i T 1 (I 158 12)) (fun _ => 0) (I 158 13 * T * (I 158 13 * T)) s (s + 1)) → X t I := by
      intro m
      induction m with
      | zero =>
        intro t e1 e2 e3
        obtain rfl : t = T + 9 := by omega
        exact hX _ _ ⟨by omega, bT (by omega) (h0 e3)⟩
      | succ m ih =>
        intro t e1 e2 e3
        have p : ∀ c s : Int, 0 ≤ c → c < 3 → -6000 ≤ psM I sl i T c s ∧ psM I sl i T c s ≤ 6000 := fun c s c1 c2 => psM_rg hT0 wi ⟨c1, c2⟩
        have p0 := p 0 t (by decide) (by decide)
        have p1 := p 1 t (by decide) (by decide)
        have p3 := p 0 (t + 1) (by decide) (by decide)
        have p4 := p 1 (t + 1) (by decide) (by decide)
        have a1 : 0 ≤ t ∧ t ≤ 50 := by omega
        have a2 : 0 ≤ t + 1 ∧ t + 1 ≤ 50 := by omega
        refine hX _ _ ⟨by omega, bF (by omega) (bF r0 (s_placeX hi ti hT0 a1 wi ⟨by omega, nm (s_placeY hi ti hT0 a1 wi ⟨by omega, nm ⟨by omega, s_placeX hi ti hT0 a2 wi ⟨by omega, nm (s_placeY hi ti hT0 a2 wi ⟨by omega, nm ⟨by omega, ?_⟩⟩)⟩⟩⟩)⟩))⟩
        refine s_isNear (by omega) (by omega) (by omega) (by omega) (by omega) (by omega) ⟨Int.mul_nonneg hR.1 hT0.1, by omega⟩ (fun n => z1 (h1 ⟨t, e2, by omega, ?_⟩)) (fun n => z0 (nm (ih (t + 1) (by omega) (by omega) ?_)))
        · rw [as_c, as_c] at n
          exact n
        · rw [as_c, as_c] at n
          rintro ⟨s, s1, s2, s3⟩
          by_cases c : s = t
          · subst c; exact n s3
          · exact e3 ⟨s, s1, by omega, s3⟩
    exact key (T + 9).toNat 0 (by omega) (by omega) (fun ⟨s, s1, s2, _⟩ => by omega)
