/-! ===== reading a figure: one function of the bytes for both ===== -/
abbrev dg (x : Int) : Prop := 48 ≤ x ∧ x ≤ 57
abbrev pbad (b m v d : Int) : Prop := (0 < m ∧ v = 0) ∨ (b ≠ 0 ∧ d = 0) ∨ 200 < d
/-- digits from i on: whether they are a number, where the reading stands, the number -/
def pdf (s : Int → Int) (b : Int) : Nat → Int → Int → Int → Int × Int × Int
  | 0, _, v, i => (1, i, v)
  | n + 1, m, v, i => if dg (s i) then (if pbad b m v (v * 10 + (s i - 48)) then (0, i, v) else pdf s b n (m + 1) (v * 10 + (s i - 48)) (i + 1)) else (if m = 0 then 0 else 1, i, v)
def mb (s : Int → Int) (g i : Int) : Int := if g ≠ 0 ∧ s i = 45 then 1 else 0
def pnd (s : Int → Int) (g i : Int) : Int × Int × Int := pdf s (mb s g i) 3 0 0 (i + mb s g i)
/-- a number and the byte behind it -/
def pnr (s : Int → Int) (g h i : Int) : Int × Int × Int :=
  if (pnd s g i).1 = 1 ∧ s (pnd s g i).2.1 = h then (1, (pnd s g i).2.1 + 1, if mb s g i = 0 then (pnd s g i).2.2 else -(pnd s g i).2.2) else (0, (pnd s g i).2.1, 0)
theorem pdf_rg (s : Int → Int) (b : Int) : ∀ (n : Nat) (m v i : Int), 0 ≤ v ∧ v ≤ 200 → (0 ≤ (pdf s b n m v i).2.2 ∧ (pdf s b n m v i).2.2 ≤ 200) ∧ i ≤ (pdf s b n m v i).2.1 := by
  intro n
  induction n with
  | zero => intro m v i h; exact ⟨h, Int.le_refl _⟩
  | succ n ih =>
    intro m v i h
    unfold pdf
    split
    · split
      · exact ⟨h, Int.le_refl _⟩
      · rename_i h1 h2
        have := ih (m + 1) (v * 10 + (s i - 48)) (i + 1) (by omega)
        exact ⟨this.1, by omega⟩
    · exact ⟨h, Int.le_refl _⟩
theorem mb_01 (s : Int → Int) (g i : Int) : mb s g i = 0 ∨ mb s g i = 1 := by unfold mb; split <;> simp
theorem pnr_rg (s : Int → Int) (g h i : Int) : (rg (-200) 200 (pnr s g h i).2.2 ∧ (g = 0 → 0 ≤ (pnr s g h i).2.2)) ∧ i ≤ (pnr s g h i).2.1 := by
  have h1 := pdf_rg s (mb s g i) 3 0 0 (i + mb s g i) (by omega)
  have h2 := mb_01 s g i
  have h3 : g = 0 → mb s g i = 0 := fun q => by unfold mb; rw [if_neg (by omega)]
  unfold pnr rg
  unfold pnd
  split
  · by_cases hm : mb s g i = 0
    · simp only [if_pos hm]
      exact ⟨⟨⟨by omega, by omega⟩, fun _ => h1.1.1⟩, by omega⟩
    · simp only [if_neg hm]
      exact ⟨⟨⟨by omega, by omega⟩, fun q => absurd (h3 q) hm⟩, by omega⟩
  · refine ⟨⟨by dsimp only; omega, fun _ => by dsimp only; omega⟩, ?_⟩
    dsimp only
    omega
/-- the class's tape, where it stands and whether it is at fault aside -/
def oT (I J : sk_S) : Prop := ∀ a k : Int, ¬ (a = 1 ∧ (k = 2 ∨ k = 3)) → J a k = I a k
theorem oT.rfl' {I : sk_S} : oT I I := fun _ _ _ => rfl
theorem oT.trans {I J K : sk_S} (h : oT I J) (g : oT J K) : oT I K := fun a k q => (g a k q).trans (h a k q)
theorem oT.up2 {I J : sk_S} (h : oT I J) {v : Int} : oT I (up J 1 2 v) := fun a k q => (up_o (by omega)).trans (h a k q)
theorem oT.up3 {I J : sk_S} (h : oT I J) {v : Int} : oT I (up J 1 3 v) := fun a k q => (up_o (by omega)).trans (h a k q)
def TC (s : Int → Int) (I : sk_S) : Prop := (0 ≤ I 1 1 ∧ I 1 1 ≤ 300) ∧ ∀ k : Int, 0 ≤ k → s k = if I 1 1 ≤ k then -1 else I 3 k
theorem TC.cong {s : Int → Int} {I J : sk_S} (T : TC s I) (h : oT I J) : TC s J := by
  unfold TC at *
  rw [h 1 1 (by omega)]
  refine ⟨T.1, fun k hk => ?_⟩
  rw [h 3 k (by omega)]
  exact T.2 k hk
theorem TC.lt {s : Int → Int} {I : sk_S} (T : TC s I) {k : Int} (h : 0 ≤ k) (q : s k ≠ -1) : k < I 1 1 := by
  have h1 := T.2 k h
  by_cases c : I 1 1 ≤ k
  · rw [if_pos c] at h1; exact absurd h1 q
  · omega
theorem s_byteHere {s : Int → Int} {Q : Int → sk_S → Prop} {I : sk_S} (T : TC s I) (hp : 0 ≤ I 1 2) (h : Q (s (I 1 2)) I) : M_Tape_byteHere Q I := by
  rw [T.2 _ hp] at h
  have t := T.1
  refine ⟨fun q => ?_, fun q => s_Row_at ?_ ?_⟩
  · rw [if_pos q] at h; exact h
  · rw [show (2 : Int) + 1 = 3 from rfl, lnn_3]; omega
  · rw [if_neg q] at h; exact h
theorem s_digitOf {x : Int} {Q : Int → sk_S → Prop} {I : sk_S} (h1 : dg x → Q (x - 48) I) (h0 : ¬ dg x → Q (-1) I) : M_Tape_digitOf x Q I :=
  ⟨fun q => h0 (by omega), fun q => ⟨fun r => h0 (by omega), fun r => ⟨by omega, h1 (by omega)⟩⟩⟩
theorem s_readDigits {s : Int → Int} {b : Int} {Q : Int → sk_S → Prop} {I : sk_S} (T : TC s I) (hp : 0 ≤ I 1 2) (hf : I 1 3 = 0)
    (h : ∀ (v : Int) (J : sk_S), oT I J → J 1 2 = (pdf s b 3 0 0 (I 1 2)).2.1 → (J 1 3 = if (pdf s b 3 0 0 (I 1 2)).1 = 1 then 0 else 1) → v = (pdf s b 3 0 0 (I 1 2)).2.2 → Q v J) : M_Tape_readDigits b Q I := by
  generalize hR : pdf s b 3 0 0 (I 1 2) = R at h
  intro X hX
  have key : ∀ (n : Nat) (m v : Int) (J : sk_S), m + n = 3 → 0 ≤ m → 0 ≤ v ∧ v ≤ 200 → oT I J → 0 ≤ J 1 2 → J 1 3 = 0 → pdf s b n m v (J 1 2) = R → X v m J := by
    intro n
    induction n with
    | zero =>
      intro m v J h1 h2 h3 h4 h5 h6 h7
      have h8 : ((1 : Int), J 1 2, v) = R := h7
      exact hX _ _ _ (bT (by omega) (h v J h4 (by rw [← h8]) (by rw [← h8, if_pos rfl]; exact h6) (by rw [← h8])))
    | succ n ih =>
      intro m v J h1 h2 h3 h4 h5 h6 h7
      have T' := T.cong h4
      have t' := T'.1
      unfold pdf at h7
      refine hX _ _ _ (bF (by omega) (s_byteHere T' h5 (s_digitOf (fun d => ?_) (fun d => ?_))))
      · rw [if_pos d] at h7
        have hlt := T'.lt h5 (by omega)
        refine nF h6 (nT (by omega) ⟨by omega, nm ?_⟩)
        have j91 : ∀ z w : Int, (z ≠ 0 ↔ (0 < m ∧ v = 0)) → (w ≠ 0 ↔ (b ≠ 0 ∧ v * 10 + (s (J 1 2) - 48) = 0)) → J_Tape_readDigits_91 b v m (v * 10 + (s (J 1 2) - 48)) z w Q X J := by
          intro z w hz hw
          by_cases c : pbad b m v (v * 10 + (s (J 1 2) - 48))
          · rw [if_pos c] at h7
            have fin : Q v (up J 1 3 1) := h v _ h4.up3 (by rw [← h7, up_o (by omega)]) (by rw [← h7, up_h]; rfl) (by rw [← h7])
            refine ⟨fun _ => fin, fun q1 => ⟨fun _ => fin, fun q2 => ⟨fun q3 => ?_, fun _ => fin⟩⟩⟩
            exfalso
            rcases c with c | c | c
            · exact absurd q1 (hz.mpr c)
            · exact absurd q2 (hw.mpr c)
            · omega
          · rw [if_neg c] at h7
            refine ⟨fun q1 => absurd (Or.inl (hz.mp q1)) c, fun q1 => ⟨fun q2 => absurd (Or.inr (Or.inl (hw.mp q2))) c, fun q2 => ⟨fun q3 => ⟨by omega, by omega, nm ?_⟩, fun q3 => absurd (Or.inr (Or.inr (by omega))) c⟩⟩⟩
            exact ih (m + 1) _ _ (by omega) (by omega) (by omega) h4.up2 (by rw [up_h]; omega) (by rw [up_o (by omega)]; exact h6) (by rw [up_h]; exact h7)
        have j75 : ∀ z : Int, (z ≠ 0 ↔ (0 < m ∧ v = 0)) → J_Tape_readDigits_75 b v m (v * 10 + (s (J 1 2) - 48)) z Q X J := fun z hz =>
          ⟨fun q => j91 z 0 hz ⟨fun r => absurd rfl r, fun r => absurd q r.1⟩, fun q => ⟨fun q2 => j91 z 0 hz ⟨fun r => absurd rfl r, fun r => absurd r.2 q2⟩, fun q2 => j91 z 1 hz ⟨fun _ => ⟨q, q2⟩, fun _ => by decide⟩⟩⟩
        exact ⟨fun q => j75 0 ⟨fun r => absurd rfl r, fun r => by omega⟩, fun q => ⟨fun q2 => j75 0 ⟨fun r => absurd rfl r, fun r => absurd r.2 q2⟩, fun q2 => j75 1 ⟨fun _ => ⟨by omega, q2⟩, fun _ => by decide⟩⟩⟩
      · rw [if_neg d] at h7
        refine nF h6 (nF rfl (nF h6 ⟨fun q => ?_, fun q => ?_⟩))
        · rw [if_neg q] at h7
          exact h v _ h4.up3 (by rw [← h7, up_o (by omega)]) (by rw [← h7, up_h]; rfl) (by rw [← h7])
        · rw [if_pos q] at h7
          exact h v _ h4.up3 (by rw [← h7, up_o (by omega)]) (by rw [← h7, up_h]; rfl) (by rw [← h7])
  exact key 3 0 0 I (by omega) (by omega) (by omega) oT.rfl' hp hf hR
theorem s_readNumber {s : Int → Int} {g hh : Int} {Q : Int → sk_S → Prop} {I : sk_S} (T : TC s I) (hp : 0 ≤ I 1 2) (hf : I 1 3 = 0) (hn : hh ≠ -1)
    (h : ∀ (v : Int) (J : sk_S), oT I J → J 1 2 = (pnr s g hh (I 1 2)).2.1 → (J 1 3 = if (pnr s g hh (I 1 2)).1 = 1 then 0 else 1) → ((pnr s g hh (I 1 2)).1 = 1 → v = (pnr s g hh (I 1 2)).2.2) → Q v J) : M_Tape_readNumber g hh Q I := by
  have j40 : ∀ J : sk_S, oT I J → J 1 2 = I 1 2 + mb s g (I 1 2) → J 1 3 = 0 → J_Tape_readNumber_40 hh (mb s g (I 1 2)) Q J := by
    intro J o e1 e2
    have hm := mb_01 s g (I 1 2)
    have T' := T.cong o
    refine s_readDigits T' (by omega) e2 (fun v K o' f1 f2 f3 => ?_)
    have er : pdf s (mb s g (I 1 2)) 3 0 0 (J 1 2) = pnd s g (I 1 2) := by rw [e1]; rfl
    rw [er] at f1 f2 f3
    have hr := pdf_rg s (mb s g (I 1 2)) 3 0 0 (I 1 2 + mb s g (I 1 2)) (by omega)
    have hr' : (0 ≤ (pnd s g (I 1 2)).2.2 ∧ (pnd s g (I 1 2)).2.2 ≤ 200) ∧ I 1 2 + mb s g (I 1 2) ≤ (pnd s g (I 1 2)).2.1 := hr
    have T2 := T'.cong o'
    have j80 : ∀ L : sk_S, oT I L → L 1 2 = (pnr s g hh (I 1 2)).2.1 → (L 1 3 = if (pnr s g hh (I 1 2)).1 = 1 then 0 else 1) → ((pnr s g hh (I 1 2)).1 = 1 → (if mb s g (I 1 2) = 0 then v else -v) = (pnr s g hh (I 1 2)).2.2) → J_Tape_readNumber_80 (mb s g (I 1 2)) v Q L := by
      intro L o3 k1 k2 k3
      refine ⟨fun q => ?_, fun q => ⟨by omega, ?_⟩⟩
      · rw [if_pos q] at k3; exact h v L o3 k1 k2 k3
      · rw [if_neg q] at k3; exact h _ L o3 k1 k2 k3
    by_cases c : (pnd s g (I 1 2)).1 = 1
    · rw [if_pos c] at f2
      refine nF f2 (s_byteHere T2 (by omega) ?_)
      by_cases c2 : s (K 1 2) = hh
      · have hlt := T2.lt (k := K 1 2) (by omega) (by omega)
        have t2 := T2.1
        have ep : pnr s g hh (I 1 2) = (1, (pnd s g (I 1 2)).2.1 + 1, if mb s g (I 1 2) = 0 then (pnd s g (I 1 2)).2.2 else -(pnd s g (I 1 2)).2.2) := by
          unfold pnr
          rw [if_pos ⟨c, by rw [← f1]; exact c2⟩]
        refine nF c2 ⟨by omega, ?_⟩
        refine j80 _ (o.trans o').up2 ?_ ?_ ?_
        · rw [up_h, ep, f1]
        · rw [up_o (by omega), ep, if_pos rfl]; exact f2
        · intro _
          rw [ep, f3]
      · have ep : pnr s g hh (I 1 2) = (0, (pnd s g (I 1 2)).2.1, 0) := by
          unfold pnr
          rw [if_neg (fun q => c2 (by rw [f1]; exact q.2))]
        refine nT c2 (j80 _ (o.trans o').up3 ?_ ?_ ?_)
        · rw [up_o (by omega), ep, f1]
        · rw [up_h, ep]; rfl
        · rw [ep]; intro q; exact absurd (show (0 : Int) = 1 from q) (by decide)
    · rw [if_neg c] at f2
      have ep : pnr s g hh (I 1 2) = (0, (pnd s g (I 1 2)).2.1, 0) := by
        unfold pnr
        rw [if_neg (fun q => c q.1)]
      refine nT (by omega) (j80 _ (o.trans o').up3 ?_ ?_ ?_)
      · rw [up_o (by omega), ep, f1]
      · rw [up_h, ep]; rfl
      · rw [ep]; intro q; exact absurd (show (0 : Int) = 1 from q) (by decide)
  have j24 : ∀ J : sk_S, J = I → mb s g (I 1 2) = 0 → J_Tape_readNumber_24 hh Q J := by
    intro J e q
    subst e
    refine z0 ?_
    have := j40 J oT.rfl' (by omega) hf
    rwa [q] at this
  refine nF hf ⟨fun q => j24 _ rfl (by unfold mb; rw [if_neg (by omega)]), fun q => s_byteHere T hp ⟨fun q2 => j24 _ rfl (by unfold mb; rw [if_neg (by omega)]), fun q2 => ?_⟩⟩
  have e : mb s g (I 1 2) = 1 := by unfold mb; rw [if_pos ⟨q, q2⟩]
  have hlt := T.lt hp (by omega)
  have t := T.1
  refine z1 ⟨by omega, ?_⟩
  have := j40 _ (oT.rfl'.up2 (v := I 1 2 + 1)) (by rw [up_h, e]) (by rw [up_o (by omega)]; exact hf)
  rwa [e] at this
