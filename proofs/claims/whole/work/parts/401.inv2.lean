/-! ===== who goes where: the least greatest way over all that may still be taken, then the first goals that keep it ===== -/
def needf (w : Nat → Nat → Int) (n : Nat) : Nat → Nat → Int
  | 0, _ => 0
  | r + 1, set => (List.range n).foldl (fun m j => if set.testBit j = true then m else imin m (imax (w (n - (r + 1)) j) (needf w n r (set ||| 2 ^ j)))) 1000000
def gstep (w : Nat → Nat → Int) (n i set : Nat) : Nat := ((List.range n).find? (fun j => !set.testBit j && decide (imax (w i j) (needf w n (n - (i + 1)) (set ||| 2 ^ j)) ≤ needf w n n 0))).getD 0
def gset (w : Nat → Nat → Int) (n : Nat) : Nat → Nat
  | 0 => 0
  | i + 1 => gset w n i ||| 2 ^ gstep w n i (gset w n i)
def goalf (w : Nat → Nat → Int) (n i : Nat) : Nat := gstep w n i (gset w n i)
/-- a picture's coordinate, as the class holds it -/
def pc (I : sk_S) (f i c : Int) : Int := I (pa f + 2) (i * 4 + c)
def wayf (I : sk_S) (F T : Int) (i j : Nat) : Int := (pc I F i 0 - pc I T j 0) * (pc I F i 0 - pc I T j 0) + (pc I F i 1 - pc I T j 1) * (pc I F i 1 - pc I T j 1) + (pc I F i 2 - pc I T j 2) * (pc I F i 2 - pc I T j 2)
/-- where point i of F goes on to T, n points -/
def gl (I : sk_S) (F T n i : Int) : Int := (goalf (wayf I F T) n.toNat i.toNat : Nat)
/-- a pass at p leads from F to T, nobody waits -/
def isPs (I : sk_S) (p F T n : Int) : Prop := I p 1 = n ∧ ∀ i : Int, 0 ≤ i → i < n → (I (p + 2) (i * 8 + 6) = gl I F T n i ∧ 0 ≤ gl I F T n i ∧ gl I F T n i < n) ∧ I (p + 2) (i * 8 + 7) = 0 ∧ ∀ c : Int, 0 ≤ c → c < 3 → I (p + 2) (i * 8 + c) = pc I F i c ∧ I (p + 2) (i * 8 + 3 + c) = pc I T (gl I F T n i) c - pc I F i c
/-- the figure ahead of a scene -/
def pr (I : sk_S) (s : Int) : Int := if s = 0 then -1 else I (65 + 7 * (s - 1)) 2
/-- where a flyer stood ahead of a scene -/
def sa (I : sk_S) (s f : Int) : Int := if s = 0 then f else I 189 (10 * (s - 1) + f)
def iShow (I : sk_S) : Prop := I 54 3 = I 158 41 ∧ rg 0 12 (I 54 3) ∧ ∀ s : Int, 0 ≤ s → s < I 54 3 →
  ((I (65 + 7 * s) 2 = I 185 s ∧ 0 ≤ I (65 + 7 * s) 2 ∧ I (65 + 7 * s) 2 < I 4 3 ∧ I (12 + 3 * I (65 + 7 * s) 2) 1 = I 5 1) ∧ (I (66 + 7 * s) 2 = I 186 s ∧ I (69 + 7 * s) 2 = I 186 s ∧ rg 1 30 (I 186 s)) ∧ (I (65 + 7 * s) 3 = I 187 s ∧ rg 0 100 (I 187 s)) ∧ I (65 + 7 * s) 4 = I 188 s ∧ rg 0 255 (I 188 s)) ∧
  isPs I (66 + 7 * s) (pr I s) (I (65 + 7 * s) 2) (I 5 1) ∧ isPs I (69 + 7 * s) (I (65 + 7 * s) 2) (-1) (I 5 1) ∧
  ∀ f : Int, 0 ≤ f → f < I 5 1 → (0 ≤ sa I s f ∧ sa I s f < I 5 1) ∧ I 189 (10 * s + f) = gl I (pr I s) (I (65 + 7 * s) 2) (I 5 1) (sa I s f)
/-- the next mark of a flyer from k on; the last one -/
def isNx (I : sk_S) (n f k r : Int) : Prop := (r = -1 ∧ ∀ j : Int, k ≤ j → j < n → I 191 j ≠ f) ∨ (k ≤ r ∧ r < n ∧ I 191 r = f ∧ ∀ j : Int, k ≤ j → j < r → I 191 j ≠ f)
def isLs (I : sk_S) (n f r : Int) : Prop := (r = -1 ∧ ∀ j : Int, 0 ≤ j → j < n → I 191 j ≠ f) ∨ (0 ≤ r ∧ r < n ∧ I 191 r = f ∧ ∀ j : Int, r < j → j < n → I 191 j ≠ f)
def iMark (I : sk_S) : Prop := (I 149 4 = I 158 48 ∧ rg 0 200 (I 149 4)) ∧ (I 149 5 = I 158 49 ∧ I 149 6 = I 158 50) ∧
  (∀ k : Int, 0 ≤ k → k < I 149 4 → (I 151 (k * 5 + 0) = I 193 k ∧ I 151 (k * 5 + 1) = I 194 k ∧ I 151 (k * 5 + 2) = I 195 k ∧ I 151 (k * 5 + 3) = I 192 k) ∧ rg 0 9 (I 191 k) ∧ rg 0 999 (I 192 k) ∧ rg (-200) 200 (I 193 k) ∧ rg (-200) 200 (I 194 k) ∧ rg 0 200 (I 195 k)) ∧
  (∀ j k : Int, 0 ≤ j → j < k → k < I 149 4 → I 191 j = I 191 k → I 192 j < I 192 k) ∧
  (∀ f : Int, 0 ≤ f → f < 10 → isNx I (I 149 4) f 0 (I 153 f) ∧ isLs I (I 149 4) f (I 155 f)) ∧
  ∀ k : Int, 0 ≤ k → k < I 149 4 → isNx I (I 149 4) (I 191 k) (k + 1) (I 151 (k * 5 + 4))
def dShow (a k : Int) : Prop := a = 5 ∨ a = 7 ∨ (65 ≤ a ∧ a < 149) ∨ (a = 54 ∧ k = 3) ∨ (a = 158 ∧ k = 41) ∨ (185 ≤ a ∧ a ≤ 189)
def dMark (a k : Int) : Prop := (a = 149 ∧ 4 ≤ k ∧ k ≤ 6) ∨ a = 151 ∨ a = 153 ∨ a = 155 ∨ (191 ≤ a ∧ a ≤ 195) ∨ (a = 158 ∧ 48 ≤ k ∧ k ≤ 50)
/-- all figures of the show, and the pads, lie as they lay -/
def sameFig (I J : sk_S) : Prop := ∀ f : Int, -1 ≤ f → f < I 4 3 → ∀ k : Int, J (pa f) k = I (pa f) k ∧ J (pa f + 2) k = I (pa f + 2) k
theorem pc_cong {I J : sk_S} (h : sameFig I J) {f : Int} (hf : -1 ≤ f ∧ f < I 4 3) (i c : Int) : pc J f i c = pc I f i c := (h f hf.1 hf.2 _).2
theorem wayf_cong {I J : sk_S} (h : sameFig I J) {F T : Int} (hF : -1 ≤ F ∧ F < I 4 3) (hT : -1 ≤ T ∧ T < I 4 3) : wayf J F T = wayf I F T := by
  funext i j
  unfold wayf
  simp only [pc_cong h hF, pc_cong h hT]
theorem gl_cong {I J : sk_S} (h : sameFig I J) {F T : Int} (hF : -1 ≤ F ∧ F < I 4 3) (hT : -1 ≤ T ∧ T < I 4 3) (n i : Int) : gl J F T n i = gl I F T n i := by
  unfold gl
  rw [wayf_cong h hF hT]
theorem isPs.cong {I J : sk_S} (h : sameFig I J) {p F T n : Int} (hF : -1 ≤ F ∧ F < I 4 3) (hT : -1 ≤ T ∧ T < I 4 3) (e1 : J p 1 = I p 1) (e2 : ∀ k, J (p + 2) k = I (p + 2) k) (g : isPs I p F T n) : isPs J p F T n := by
  unfold isPs at *
  rw [e1]
  refine ⟨g.1, fun i h1 h2 => ?_⟩
  obtain ⟨g1, g2, g3⟩ := g.2 i h1 h2
  simp only [e2, gl_cong h hF hT, pc_cong h hF, pc_cong h hT]
  exact ⟨g1, g2, g3⟩
theorem iShow.cong {I J : sk_S} (h : iShow I) (hm : -1 < I 4 3) (h4 : J 4 3 = I 4 3 ∨ I 4 3 ≤ J 4 3) (hs : sameFig I J) (e : ∀ a k, dShow a k → J a k = I a k) : iShow J := by
  have h5 : J 5 1 = I 5 1 := e 5 1 (by unfold dShow; omega)
  unfold iShow at *
  unfold dShow at e
  rw [e 54 3 (by omega), e 158 41 (by omega), h5]
  obtain ⟨g1, g2, g4⟩ := h
  unfold rg at g2
  refine ⟨g1, g2, fun s h1 h2 => ?_⟩
  obtain ⟨k1, k2, k3, k4⟩ := g4 s h1 h2
  have hf : 0 ≤ I (65 + 7 * s) 2 ∧ I (65 + 7 * s) 2 < I 4 3 := ⟨k1.1.2.1, k1.1.2.2.1⟩
  have hpr : pr J s = pr I s := by
    unfold pr
    split
    · rfl
    · exact e _ _ (by omega)
  have hp : -1 ≤ pr I s ∧ pr I s < I 4 3 := by
    unfold pr
    split
    · omega
    · have := (g4 (s - 1) (by omega) (by omega)).1.1
      omega
  have hsa : ∀ f, sa J s f = sa I s f := fun f => by
    unfold sa
    split
    · rfl
    · exact e _ _ (by omega)
  have es : J (65 + 7 * s) 2 = I (65 + 7 * s) 2 := e _ _ (by omega)
  have e12 : J (12 + 3 * I (65 + 7 * s) 2) 1 = I (12 + 3 * I (65 + 7 * s) 2) 1 := by
    have := (hs (I (65 + 7 * s) 2) (by omega) hf.2 1).1
    rwa [pa_f hf.1] at this
  rw [es, e12, e 185 _ (by omega), e (66 + 7 * s) _ (by omega), e (69 + 7 * s) _ (by omega), e 186 _ (by omega), e (65 + 7 * s) 3 (by omega), e (65 + 7 * s) 4 (by omega), e 187 _ (by omega), e 188 _ (by omega), hpr]
  refine ⟨⟨⟨k1.1.1, k1.1.2.1, by omega, k1.1.2.2.2⟩, k1.2⟩, k2.cong hs hp (by omega) (e _ _ (by omega)) (fun k => e _ _ (by omega)), k3.cong hs (by omega) (by omega) (e _ _ (by omega)) (fun k => e _ _ (by omega)), fun f h3 h4 => ?_⟩
  rw [hsa, gl_cong hs hp (by omega), e 189 _ (by omega)]
  exact k4 f h3 h4
theorem isNx.cong {I J : sk_S} (e : ∀ k, J 191 k = I 191 k) {n f k r : Int} (h : isNx I n f k r) : isNx J n f k r := by
  unfold isNx at *
  simp only [e]
  exact h
theorem isLs.cong {I J : sk_S} (e : ∀ k, J 191 k = I 191 k) {n f r : Int} (h : isLs I n f r) : isLs J n f r := by
  unfold isLs at *
  simp only [e]
  exact h
theorem iMark.cong {I J : sk_S} (h : iMark I) (e : ∀ a k, dMark a k → J a k = I a k) : iMark J := by
  unfold iMark at *
  unfold dMark at e
  have e191 : ∀ k, J 191 k = I 191 k := fun k => e _ _ (by omega)
  rw [e 149 4 (by omega), e 149 5 (by omega), e 149 6 (by omega), e 158 48 (by omega), e 158 49 (by omega), e 158 50 (by omega)]
  obtain ⟨g1, g2, g3, g4, g5, g6⟩ := h
  refine ⟨g1, g2, fun k h1 h2 => ?_, fun j k h1 h2 h3 h4 => ?_, fun f h1 h2 => ?_, fun k h1 h2 => ?_⟩
  · rw [e 151 _ (by omega), e 151 _ (by omega), e 151 _ (by omega), e 151 _ (by omega), e 193 _ (by omega), e 194 _ (by omega), e 195 _ (by omega), e 192 _ (by omega), e191]
    exact g3 k h1 h2
  · rw [e191, e191] at h4
    rw [e 192 _ (by omega), e 192 _ (by omega)]
    exact g4 j k h1 h2 h3 h4
  · rw [e 153 _ (by omega), e 155 _ (by omega)]
    exact ⟨(g5 f h1 h2).1.cong e191, (g5 f h1 h2).2.cong e191⟩
  · rw [e191, e 151 _ (by omega)]
    exact (g6 k h1 h2).cong e191
/-- THE INVARIANT -/
def Inv (I : sk_S) : Prop := iFly I ∧ iFig I ∧ iAir I ∧ iTape I ∧ iPass I ∧ iShow I ∧ iMark I
/-- a step of both: the answers are one, the invariant holds behind -/
def Ok (r r' : Int) (I : sk_S) : Prop := r = r' ∧ Inv I
theorem Ok.use {K : Int → sk_S → Prop} {r r' : Int} {J : sk_S} (hK : ∀ J, Inv J → K r J) (h : Ok r r' J) : K r' J := by
  rw [← h.1]
  exact hK _ h.2
/-- the reference answers r from I1 on, the invariant holds behind -/
def Two (mo : (Int → sk_S → Prop) → sk_S → Prop) (r : Int) (I1 : sk_S) : Prop := ∀ K : Int → sk_S → Prop, (∀ J, Inv J → K r J) → mo K I1
def dAll (n a k : Int) : Prop := dFly a k ∨ dFig n a k ∨ dAir a k ∨ dTape a k ∨ dPass a k ∨ dShow a k ∨ dMark a k
theorem sameFig_of {I J : sk_S} (e : ∀ a k, (a = 5 ∨ a = 7 ∨ (12 ≤ a ∧ a < 12 + 3 * I 4 3)) → J a k = I a k) (h : I 4 3 ≤ 8) : sameFig I J := by
  intro f h1 h2 k
  unfold pa
  split
  · exact ⟨e _ _ (by omega), e _ _ (by omega)⟩
  · exact ⟨e _ _ (by omega), e _ _ (by omega)⟩
theorem Inv.cong {I J : sk_S} (h : Inv I) (e : ∀ a k, dAll (I 4 3) a k → J a k = I a k) : Inv J := by
  unfold dAll at e
  obtain ⟨h1, h2, h3, h4, h5, h6, h7⟩ := h
  have h8 := h2.2.1
  unfold rg at h8
  refine ⟨h1.cong fun a k q => e a k (Or.inl q), h2.cong fun a k q => e a k (Or.inr (Or.inl q)), h3.cong fun a k q => e a k (Or.inr (Or.inr (Or.inl q))), h4.cong fun a k q => e a k (Or.inr (Or.inr (Or.inr (Or.inl q)))), h5.cong fun a k q => e a k (Or.inr (Or.inr (Or.inr (Or.inr (Or.inl q))))), h6.cong (by omega) (Or.inl (e 4 3 (Or.inr (Or.inl (by unfold dFig; omega))))) (sameFig_of (fun a k q => ?_) (by omega)) fun a k q => e a k (Or.inr (Or.inr (Or.inr (Or.inr (Or.inr (Or.inl q)))))), h7.cong fun a k q => e a k (Or.inr (Or.inr (Or.inr (Or.inr (Or.inr (Or.inr q))))))⟩
  rcases q with q | q | q
  · exact e a k (Or.inl (by unfold dFly; omega))
  · exact e a k (Or.inl (by unfold dFly; omega))
  · exact e a k (Or.inr (Or.inl (by unfold dFig; omega)))
