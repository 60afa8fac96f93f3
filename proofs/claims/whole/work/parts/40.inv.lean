/-! ===== pure: small steps ===== -/
theorem z1 {A B : Prop} (h : B) : ((1 : Int) = 0 → A) ∧ (¬ (1 : Int) = 0 → B) := ⟨fun q => absurd q (by decide), fun _ => h⟩
theorem z0 {A B : Prop} (h : A) : ((0 : Int) = 0 → A) ∧ (¬ (0 : Int) = 0 → B) := ⟨fun _ => h, fun q => absurd rfl q⟩
theorem n1 {A B : Prop} (h : A) : (¬ (1 : Int) = 0 → A) ∧ ((1 : Int) = 0 → B) := ⟨fun _ => h, fun q => absurd q (by decide)⟩
theorem n0 {A B : Prop} (h : B) : (¬ (0 : Int) = 0 → A) ∧ ((0 : Int) = 0 → B) := ⟨fun q => absurd rfl q, fun _ => h⟩
theorem bT {c A B : Prop} (hc : c) (h : A) : (c → A) ∧ (¬ c → B) := ⟨fun _ => h, fun q => absurd hc q⟩
theorem bF {c A B : Prop} (hc : ¬ c) (h : B) : (c → A) ∧ (¬ c → B) := ⟨fun q => absurd q hc, fun _ => h⟩
theorem nT {c A B : Prop} (hc : ¬ c) (h : A) : (¬ c → A) ∧ (c → B) := ⟨fun _ => h, fun q => absurd q hc⟩
theorem nF {c A B : Prop} (hc : c) (h : B) : (¬ c → A) ∧ (c → B) := ⟨fun q => absurd hc q, fun _ => h⟩
theorem nm {α : Type} {e : α} {K : α → Prop} (h : K e) : ∀ x, x = e → K x := fun _ q => q ▸ h
theorem up_h {I : sk_S} {a k v : Int} : up I a k v a k = v := by unfold up; rw [if_pos ⟨rfl, rfl⟩]
theorem up_o {I : sk_S} {a k v b j : Int} (h : ¬ (b = a ∧ j = k)) : up I a k v b j = I b j := by unfold up; rw [if_neg h]
theorem s_isWithin {x a b : Int} {Q : Int → sk_S → Prop} {I : sk_S} (h1 : a ≤ x ∧ x ≤ b → Q 1 I) (h0 : ¬ (a ≤ x ∧ x ≤ b) → Q 0 I) : M_Sky_isWithin x a b Q I :=
  ⟨fun q => h0 (by omega), fun q => ⟨fun r => h0 (by omega), fun r => h1 (by omega)⟩⟩
theorem s_isAcross {x : Int} {Q : Int → sk_S → Prop} {I : sk_S} (h1 : -200 ≤ x ∧ x ≤ 200 → Q 1 I) (h0 : ¬ (-200 ≤ x ∧ x ≤ 200) → Q 0 I) : M_Sky_isAcross x Q I := s_isWithin h1 h0
theorem s_isIn {x a b : Int} {Q : Int → sk_S → Prop} {I : sk_S} (h1 : a ≤ x ∧ x ≤ b → Q 1 I) (h0 : ¬ (a ≤ x ∧ x ≤ b) → Q 0 I) : M_Mo_isIn x a b Q I :=
  ⟨fun q => h0 (by omega), fun q => ⟨fun r => h0 (by omega), fun r => h1 (by omega)⟩⟩
theorem s_bit {x : Int} {Q : Int → sk_S → Prop} {I : sk_S} (hx : x = 0 ∨ x = 1) (h : Q x I) : M_Sky_bit x Q I := by
  rcases hx with rfl | rfl
  · exact z0 h
  · exact z1 h
theorem s_Row_at {a i : Int} {Q : Int → sk_S → Prop} {I : sk_S} (hi : 0 ≤ i ∧ i < ln (a + 1)) (h : Q (I (a + 1) i) I) : M_Row_at a i Q I :=
  bF (by omega) (bF (by omega) ⟨hi, h⟩)
theorem s_Row_at0 {a i : Int} {Q : Int → sk_S → Prop} {I : sk_S} (hi : ¬ (0 ≤ i ∧ i < ln (a + 1))) (h : Q 0 I) : M_Row_at a i Q I := by
  by_cases q : i < 0
  · exact bT q h
  · exact bF q (bT (by omega) h)
theorem s_Row_put {a i v : Int} {Q : sk_S → Prop} {I : sk_S} (hi : 0 ≤ i ∧ i < ln (a + 1)) (h : Q (up I (a + 1) i v)) : M_Row_put a i v Q I :=
  bF (by omega) (bF (by omega) ⟨hi, h⟩)
theorem s_Gallery_has {x : Int} {Q : Int → sk_S → Prop} {I : sk_S} (h1 : 0 ≤ x ∧ x < I 4 3 → Q 1 I) (h0 : ¬ (0 ≤ x ∧ x < I 4 3) → Q 0 I) : M_Gallery_has x Q I :=
  ⟨fun q => h0 (by omega), fun q => ⟨fun r => h0 (by omega), fun r => h1 (by omega)⟩⟩
theorem s_isFigure {x : Int} {Q : Int → sk_S → Prop} {I : sk_S} (h1 : 0 ≤ x ∧ x < I 158 9 → Q 1 I) (h0 : ¬ (0 ≤ x ∧ x < I 158 9) → Q 0 I) : M_Mo_isFigure x Q I :=
  ⟨fun q => h0 (by omega), fun q => ⟨fun r => h0 (by omega), fun r => h1 (by omega)⟩⟩
/-- where a picture's cells lie: -1 the pads -/
def pa (f : Int) : Int := if f < 0 then 5 else 12 + 3 * f
theorem pa_m1 : pa (-1) = 5 := rfl
theorem pa_f {f : Int} (h : 0 ≤ f) : pa f = 12 + 3 * f := by unfold pa; rw [if_neg (by omega)]
theorem kd_pa {f : Int} (h : -1 ≤ f ∧ f < 8) : kd (pa f) = 5 := by
  unfold pa
  split
  · exact kdn_5
  · exact kd_fig (by omega)
theorem s_Gallery_at {x : Int} {Q : Int → sk_S → Prop} {I : sk_S} (hx : -1 ≤ x ∧ x < 8) (h : Q (pa x) I) : M_Gallery_at x Q I := by
  by_cases q : x = -1
  · subst q; exact nF rfl h
  · rw [pa_f (by omega)] at h
    exact nT q (bF (by omega) (bF (by omega) ⟨by omega, h⟩))
theorem s_flyers {Q : Int → sk_S → Prop} {I : sk_S} (h : Q (I 5 1) I) : M_Sky_flyers Q I := s_Gallery_at (x := -1) (by omega) h
theorem s_Pass_has {a x : Int} {Q : Int → sk_S → Prop} {I : sk_S} (h1 : 0 ≤ x ∧ x < I a 1 → Q 1 I) (h0 : ¬ (0 ≤ x ∧ x < I a 1) → Q 0 I) : M_Pass_has a x Q I :=
  ⟨fun q => h0 (by omega), fun q => ⟨fun r => h0 (by omega), fun r => h1 (by omega)⟩⟩
theorem s_isOfPass {x : Int} {Q : Int → sk_S → Prop} {I : sk_S} (h1 : 0 ≤ x ∧ x < I 176 0 → Q 1 I) (h0 : ¬ (0 ≤ x ∧ x < I 176 0) → Q 0 I) : M_Mo_isOfPass x Q I :=
  ⟨fun q => h0 (by omega), fun q => ⟨by omega, fun r => h0 (by omega), fun r => h1 (by omega)⟩⟩
/-! ===== what holds of both objects between two calls ===== -/
def rg (a b x : Int) : Prop := a ≤ x ∧ x ≤ b
/-- flyers -/
def iFly (I : sk_S) : Prop := I 158 8 = I 5 1 ∧ rg 0 10 (I 5 1) ∧ ∀ i : Int, 0 ≤ i → i < I 5 1 → (I 7 (i * 4 + 0) = I 159 i ∧ I 7 (i * 4 + 1) = I 160 i ∧ I 7 (i * 4 + 2) = 0 ∧ I 7 (i * 4 + 3) = 0) ∧ (rg (-200) 200 (I 159 i) ∧ rg (-200) 200 (I 160 i)) ∧ I 64 i = I 161 i ∧ rg 0 100000 (I 64 i)
/-- figures -/
def iFig (I : sk_S) : Prop := I 158 9 = I 4 3 ∧ rg 0 8 (I 4 3) ∧ ∀ f : Int, 0 ≤ f → f < I 4 3 → I 162 f = I (12 + 3 * f) 1 ∧ rg 1 10 (I (12 + 3 * f) 1) ∧ ∀ i : Int, 0 ≤ i → i < I (12 + 3 * f) 1 → (I (14 + 3 * f) (i * 4 + 0) = I 163 (10 * f + i) ∧ I (14 + 3 * f) (i * 4 + 1) = I 164 (10 * f + i) ∧ I (14 + 3 * f) (i * 4 + 2) = I 165 (10 * f + i) ∧ I (14 + 3 * f) (i * 4 + 3) = I 166 (10 * f + i)) ∧ rg (-200) 200 (I 163 (10 * f + i)) ∧ rg (-200) 200 (I 164 (10 * f + i)) ∧ rg 0 200 (I 165 (10 * f + i)) ∧ rg 0 9 (I 166 (10 * f + i))
def iAir (I : sk_S) : Prop := (I 36 0 = I 158 10 ∧ rg 0 100 (I 36 0)) ∧ (I 36 1 = I 158 11 ∧ rg (-200) 200 (I 36 1)) ∧ (I 36 2 = I 158 12 ∧ rg (-200) 200 (I 36 2)) ∧ (I 36 3 = I 158 13 ∧ rg 0 200 (I 36 3)) ∧ I 54 4 = I 158 42 ∧ rg 0 10000 (I 54 4)
def iTape (I : sk_S) : Prop := I 1 1 = I 158 15 ∧ rg 0 300 (I 1 1) ∧ ∀ j : Int, 0 ≤ j → j < I 1 1 → I 3 j = I 167 j ∧ rg 0 255 (I 3 j)
/-- the latest pass -/
def iPass (I : sk_S) : Prop := I 44 1 = I 176 0 ∧ rg 0 10 (I 44 1) ∧ (0 < I 44 1 → I 44 2 = I 175 0 ∧ rg 1 30 (I 44 2)) ∧ ∀ i : Int, 0 ≤ i → i < I 44 1 → (I 46 (i * 8 + 6) = I 177 i ∧ 0 ≤ I 177 i ∧ I 177 i < I 44 1) ∧ (I 46 (i * 8 + 7) = I 174 i ∧ rg 0 9 (I 174 i)) ∧ ∀ c : Int, 0 ≤ c → c < 3 → (I 46 (i * 8 + c) = I (168 + c) i ∧ I 46 (i * 8 + 3 + c) = I (171 + c) i - I (168 + c) i) ∧ rg (-200) 200 (I (168 + c) i) ∧ rg (-200) 200 (I (171 + c) i)
/-- the cells that each of these speaks of -/
def dFly (a k : Int) : Prop := a = 5 ∨ a = 7 ∨ a = 64 ∨ a = 159 ∨ a = 160 ∨ a = 161 ∨ (a = 158 ∧ k = 8)
def dFig (n a k : Int) : Prop := (12 ≤ a ∧ a < 12 + 3 * n) ∨ (a = 4 ∧ k = 3) ∨ (a = 162 ∧ k < n) ∨ (163 ≤ a ∧ a ≤ 166 ∧ k < 10 * n) ∨ (a = 158 ∧ k = 9)
def dAir (a k : Int) : Prop := a = 36 ∨ (a = 158 ∧ 10 ≤ k ∧ k ≤ 13) ∨ (a = 54 ∧ k = 4) ∨ (a = 158 ∧ k = 42)
def dTape (a k : Int) : Prop := (a = 1 ∧ k = 1) ∨ a = 3 ∨ a = 167 ∨ (a = 158 ∧ k = 15)
def dPass (a k : Int) : Prop := a = 44 ∨ a = 46 ∨ a = 177 ∨ (168 ≤ a ∧ a ≤ 174 ∧ 0 ≤ k ∧ k < 10) ∨ ((a = 175 ∨ a = 176) ∧ k = 0)
theorem iFly.cong {I J : sk_S} (h : iFly I) (e : ∀ a k, dFly a k → J a k = I a k) : iFly J := by
  unfold iFly dFly at *
  have h1 := e 158 8 (by omega)
  have h2 := e 5 1 (by omega)
  rw [h1, h2]
  refine ⟨h.1, h.2.1, fun i h3 h4 => ?_⟩
  rw [e 7 _ (by omega), e 7 _ (by omega), e 7 _ (by omega), e 7 _ (by omega), e 159 _ (by omega), e 160 _ (by omega), e 64 _ (by omega), e 161 _ (by omega)]
  exact h.2.2 i h3 h4
theorem iFig.cong {I J : sk_S} (h : iFig I) (e : ∀ a k, dFig (I 4 3) a k → J a k = I a k) : iFig J := by
  unfold iFig dFig at *
  rw [e 158 9 (by omega), e 4 3 (by omega)]
  refine ⟨h.1, h.2.1, fun f h3 h4 => ?_⟩
  have hf := h.2.1.2
  have hz := (h.2.2 f h3 h4).2.1.2
  rw [e 162 _ (by omega), e (12 + 3 * f) _ (by omega)]
  obtain ⟨g1, g2, g3⟩ := h.2.2 f h3 h4
  refine ⟨g1, g2, fun i h5 h6 => ?_⟩
  rw [e (14 + 3 * f) _ (by omega), e (14 + 3 * f) _ (by omega), e (14 + 3 * f) _ (by omega), e (14 + 3 * f) _ (by omega), e 163 _ (by omega), e 164 _ (by omega), e 165 _ (by omega), e 166 _ (by omega)]
  exact g3 i h5 h6
theorem iAir.cong {I J : sk_S} (h : iAir I) (e : ∀ a k, dAir a k → J a k = I a k) : iAir J := by
  unfold iAir dAir at *
  rw [e 36 0 (by omega), e 36 1 (by omega), e 36 2 (by omega), e 36 3 (by omega), e 158 10 (by omega), e 158 11 (by omega), e 158 12 (by omega), e 158 13 (by omega), e 54 4 (by omega), e 158 42 (by omega)]
  exact h
theorem iTape.cong {I J : sk_S} (h : iTape I) (e : ∀ a k, dTape a k → J a k = I a k) : iTape J := by
  unfold iTape dTape at *
  rw [e 1 1 (by omega), e 158 15 (by omega)]
  refine ⟨h.1, h.2.1, fun j h3 h4 => ?_⟩
  rw [e 3 _ (by omega), e 167 _ (by omega)]
  exact h.2.2 j h3 h4
theorem iPass.cong {I J : sk_S} (h : iPass I) (e : ∀ a k, dPass a k → J a k = I a k) : iPass J := by
  unfold iPass dPass at *
  rw [e 44 1 (by omega), e 176 0 (by omega), e 44 2 (by omega), e 175 0 (by omega)]
  obtain ⟨g1, g2, g3, g4⟩ := h
  unfold rg at g2
  refine ⟨g1, g2, g3, fun i h3 h4 => ?_⟩
  rw [e 46 _ (by omega), e 177 _ (by omega), e 46 _ (by omega), e 174 _ (by omega)]
  obtain ⟨k1, k2, k3⟩ := g4 i h3 h4
  refine ⟨k1, k2, fun c h5 h6 => ?_⟩
  rw [e 46 _ (by omega), e 46 _ (by omega), e (168 + c) _ (by omega), e (171 + c) _ (by omega)]
  exact k3 c h5 h6
