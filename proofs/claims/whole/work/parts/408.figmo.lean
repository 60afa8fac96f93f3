/-! ===== the reference reads a figure ===== -/
def TM (s : Int → Int) (I : sk_S) : Prop := (0 ≤ I 158 15 ∧ I 158 15 ≤ 300) ∧ ∀ k : Int, 0 ≤ k → s k = if I 158 15 ≤ k then -1 else I 167 k
/-- the reference's reading changes this alone: its place, its number, the cells of point p -/
def oM (p : Int) (I J : sk_S) : Prop := ∀ a k : Int, ¬ (a = 158 ∧ (k = 16 ∨ k = 17)) → ¬ (163 ≤ a ∧ a ≤ 166 ∧ k = p) → J a k = I a k
theorem oM.rfl' {p : Int} {I : sk_S} : oM p I I := fun _ _ _ _ => rfl
theorem oM.trans {p : Int} {I J K : sk_S} (h : oM p I J) (g : oM p J K) : oM p I K := fun a k q r => (g a k q r).trans (h a k q r)
theorem oM.up16 {p : Int} {I J : sk_S} (h : oM p I J) {v : Int} : oM p I (up J 158 16 v) := fun a k q r => (up_o (by omega)).trans (h a k q r)
theorem oM.up17 {p : Int} {I J : sk_S} (h : oM p I J) {v : Int} : oM p I (up J 158 17 v) := fun a k q r => (up_o (by omega)).trans (h a k q r)
theorem oM.upp {p : Int} {I J : sk_S} (h : oM p I J) {c v : Int} (hc : 163 ≤ c ∧ c ≤ 166) : oM p I (up J c p v) := fun a k q r => (up_o (by omega)).trans (h a k q r)
theorem TM.cong {s : Int → Int} {p : Int} {I J : sk_S} (T : TM s I) (h : oM p I J) : TM s J := by
  unfold TM at *
  rw [h 158 15 (by omega) (by omega)]
  refine ⟨T.1, fun k hk => ?_⟩
  rw [h 167 k (by omega) (by omega)]
  exact T.2 k hk
theorem TM.lt {s : Int → Int} {I : sk_S} (T : TM s I) {k : Int} (h : 0 ≤ k) (q : s k ≠ -1) : k < I 158 15 := by
  have h1 := T.2 k h
  by_cases c : I 158 15 ≤ k
  · rw [if_pos c] at h1; exact absurd h1 q
  · omega
theorem s_sign {s : Int → Int} {Q : Int → sk_S → Prop} {I : sk_S} (T : TM s I) (hp : 0 ≤ I 158 16) (h : Q (s (I 158 16)) I) : M_Mo_sign Q I := by
  rw [T.2 _ hp] at h
  have t := T.1
  refine ⟨fun q => ?_, fun q => ⟨by omega, ?_⟩⟩
  · rw [if_pos q] at h; exact h
  · rw [if_neg q] at h; exact h
theorem s_isDigit {x : Int} {Q : Int → sk_S → Prop} {I : sk_S} (h1 : dg x → Q 1 I) (h0 : ¬ dg x → Q 0 I) : M_Mo_isDigit x Q I :=
  ⟨fun q => h0 (by omega), fun q => ⟨fun r => h0 (by omega), fun r => h1 (by omega)⟩⟩
theorem s_takes {s : Int → Int} {x : Int} {Q : Int → sk_S → Prop} {I : sk_S} (T : TM s I) (hp : 0 ≤ I 158 16) (hx : x ≠ -1) (h1 : s (I 158 16) = x → Q 1 (up I 158 16 (I 158 16 + 1))) (h0 : s (I 158 16) ≠ x → Q 0 I) : M_Mo_takes x Q I := by
  refine s_sign T hp ⟨fun q => ⟨?_, h1 q⟩, fun q => h0 q⟩
  have := T.lt hp (by omega)
  have := T.1
  omega
def oN (I J : sk_S) : Prop := ∀ a k : Int, ¬ (a = 158 ∧ (k = 16 ∨ k = 17)) → J a k = I a k
theorem oN.rfl' {I : sk_S} : oN I I := fun _ _ _ => rfl
theorem oN.up16 {I J : sk_S} (h : oN I J) {v : Int} : oN I (up J 158 16 v) := fun a k q => (up_o (by omega)).trans (h a k q)
theorem oN.up17 {I J : sk_S} (h : oN I J) {v : Int} : oN I (up J 158 17 v) := fun a k q => (up_o (by omega)).trans (h a k q)
theorem oN.m {p : Int} {I J : sk_S} (h : oN I J) : oM p I J := fun a k q _ => h a k q
theorem s_Mo_number {s : Int → Int} {g : Int} {Q : Int → sk_S → Prop} {I : sk_S} (T : TM s I) (hp : 0 ≤ I 158 16)
    (h1 : (pnd s g (I 158 16)).1 = 1 → ¬ dg (s (pnd s g (I 158 16)).2.1) → ∀ J : sk_S, oN I J → J 158 16 = (pnd s g (I 158 16)).2.1 → (J 158 17 = if mb s g (I 158 16) = 0 then (pnd s g (I 158 16)).2.2 else -(pnd s g (I 158 16)).2.2) → Q 1 J)
    (h0 : ¬ ((pnd s g (I 158 16)).1 = 1 ∧ ¬ dg (s (pnd s g (I 158 16)).2.1)) → ∀ J : sk_S, oN I J → J 158 16 = (pnd s g (I 158 16)).2.1 → Q 0 J) : M_Mo_number g Q I := by
  have hm := mb_01 s g (I 158 16)
  have hrg := (pdf_rg s (mb s g (I 158 16)) 3 0 0 (I 158 16 + mb s g (I 158 16)) (by omega))
  have loop : ∀ (n : Nat) (m v : Int) (J : sk_S), m + n = 3 → 1 ≤ m → (0 ≤ v ∧ v ≤ 200) → (m = 3 → 100 ≤ v) → (m = 2 → 10 ≤ v) → oN I J → 0 ≤ J 158 16 → pdf s (mb s g (I 158 16)) n m v (J 158 16) = pnd s g (I 158 16) → L_Mo_number_62 (mb s g (I 158 16)) Q v J := by
    intro n m v J e1 e2 e3 e4 e4' e5 e6 e7 X hX
    have key : ∀ (n : Nat) (m v : Int) (J : sk_S), m + n = 3 → 1 ≤ m → (0 ≤ v ∧ v ≤ 200) → (m = 3 → 100 ≤ v) → (m = 2 → 10 ≤ v) → oN I J → 0 ≤ J 158 16 → pdf s (mb s g (I 158 16)) n m v (J 158 16) = pnd s g (I 158 16) → X v J := by
      clear e1 e2 e3 e4 e4' e5 e6 e7
      generalize pnd s g (I 158 16) = R at h1 h0
      intro n
      induction n with
      | zero =>
        intro m v J e1 e2 e3 e4 e4' e5 e6 e7
        have TJ := T.cong (e5.m (p := 0))
        have t := TJ.1
        have e8 : ((1 : Int), J 158 16, v) = R := e7
        subst e8
        refine hX _ _ (s_sign TJ e6 (s_isDigit (fun d => ?_) (fun d => ?_)))
        · refine z1 (s_sign TJ e6 ⟨by omega, nm ?_⟩)
          refine bF (by omega) (bF (by omega) ?_)
          exact h0 (fun q => q.2 d) J e5 rfl
        · refine bT rfl ?_
          refine ⟨fun q => ?_, fun q => ⟨by omega, ?_⟩⟩
          · exact h1 rfl d _ e5.up17 (up_o (by omega)) (by rw [up_h, if_pos q])
          · exact h1 rfl d _ e5.up17 (up_o (by omega)) (by rw [up_h, if_neg q])
      | succ n ih =>
        intro m v J e1 e2 e3 e4 e4' e5 e6 e7
        have TJ := T.cong (e5.m (p := 0))
        have t := TJ.1
        unfold pdf at e7
        refine hX _ _ (s_sign TJ e6 (s_isDigit (fun d => ?_) (fun d => ?_)))
        · rw [if_pos d] at e7
          have hlt := TJ.lt e6 (by omega)
          refine z1 (s_sign TJ e6 ⟨by omega, nm ?_⟩)
          by_cases c : pbad (mb s g (I 158 16)) m v (v * 10 + (s (J 158 16) - 48))
          · rw [if_pos c] at e7
            subst e7
            have fin : Q 0 J := h0 (fun q => absurd (show (0 : Int) = 1 from q.1) (by decide)) J e5 rfl
            refine ⟨fun _ => fin, fun q => ⟨fun q2 => ?_, fun _ => fin⟩⟩
            exfalso
            rcases c with c | c | c
            · exact q c.2
            · omega
            · omega
          · rw [if_neg c] at e7
            have c1 : v ≠ 0 := fun q => c (Or.inl ⟨by omega, q⟩)
            have c2 : ¬ 200 < v * 10 + (s (J 158 16) - 48) := fun q => c (Or.inr (Or.inr q))
            refine bF c1 (bT (by omega) ⟨by omega, ?_⟩)
            have := ih (m + 1) (v * 10 + (s (J 158 16) - 48)) (up J 158 16 (J 158 16 + 1)) (by omega) (by omega) (by omega) (fun q => by have := e4' (by omega); omega) (fun q => by omega) e5.up16 (by rw [up_h]; omega) (by rw [up_h]; exact e7)
            rwa [show 10 * v + s (J 158 16) - 48 = v * 10 + (s (J 158 16) - 48) by omega]
        · rw [if_neg d, if_neg (by omega)] at e7
          subst e7
          refine bT rfl ?_
          refine ⟨fun q => ?_, fun q => ⟨by omega, ?_⟩⟩
          · exact h1 rfl d _ e5.up17 (up_o (by omega)) (by rw [up_h, if_pos q])
          · exact h1 rfl d _ e5.up17 (up_o (by omega)) (by rw [up_h, if_neg q])
    exact key n m v J e1 e2 e3 e4 e4' e5 e6 e7
  have j18 : ∀ J : sk_S, oN I J → J 158 16 = I 158 16 + mb s g (I 158 16) → J_Mo_number_18 (mb s g (I 158 16)) Q J := by
    intro J o e
    have TJ := T.cong (o.m (p := 0))
    have t := TJ.1
    have ed : pnd s g (I 158 16) = if dg (s (J 158 16)) then (if pbad (mb s g (I 158 16)) 0 0 (0 * 10 + (s (J 158 16) - 48)) then (0, J 158 16, 0) else pdf s (mb s g (I 158 16)) 2 (0 + 1) (0 * 10 + (s (J 158 16) - 48)) (J 158 16 + 1)) else (if (0 : Int) = 0 then 0 else 1, J 158 16, 0) := by rw [e]; rfl
    refine s_sign TJ (by omega) (s_isDigit (fun d => ?_) (fun d => ?_))
    · rw [if_pos d] at ed
      have hlt := TJ.lt (k := J 158 16) (by omega) (by omega)
      refine z1 ?_
      have j44 : ¬ pbad (mb s g (I 158 16)) 0 0 (0 * 10 + (s (J 158 16) - 48)) → J_Mo_number_44 (mb s g (I 158 16)) Q J := by
        intro c
        rw [if_neg c] at ed
        refine s_sign TJ (by omega) ⟨by omega, nm ⟨by omega, ?_⟩⟩
        rw [show s (J 158 16) - 48 = 0 * 10 + (s (J 158 16) - 48) by omega]
        exact loop 2 (0 + 1) _ (up J 158 16 (J 158 16 + 1)) (by omega) (by omega) (by omega) (fun q => by omega) (fun q => by omega) o.up16 (by rw [up_h]; omega) (by rw [up_h]; exact ed.symm)
      refine ⟨fun q => j44 (by omega), fun q => s_sign TJ (by omega) ⟨fun q2 => j44 (by omega), fun q2 => ?_⟩⟩
      rw [if_pos (Or.inr (Or.inl ⟨q, by omega⟩))] at ed
      rw [ed] at h0
      exact h0 (fun r => absurd (show (0 : Int) = 1 from r.1) (by decide)) J o rfl
    · rw [if_neg d, if_pos rfl] at ed
      refine bT rfl ?_
      rw [ed] at h0
      exact h0 (fun r => absurd (show (0 : Int) = 1 from r.1) (by decide)) J o rfl
  refine ⟨fun q => ?_, fun q => s_takes T hp (by decide) (fun e => ?_) (fun e => ?_)⟩
  · have e0 : mb s g (I 158 16) = 0 := by unfold mb; rw [if_neg (by omega)]
    have := j18 I oN.rfl' (by omega)
    rwa [e0] at this
  · have e0 : mb s g (I 158 16) = 1 := by unfold mb; rw [if_pos ⟨q, e⟩]
    have := j18 (up I 158 16 (I 158 16 + 1)) oN.rfl'.up16 (by rw [up_h, e0])
    rw [e0] at this
    exact z1 this
  · have e0 : mb s g (I 158 16) = 0 := by unfold mb; rw [if_neg (fun r => e r.2)]
    have := j18 I oN.rfl' (by omega)
    rw [e0] at this
    exact bT rfl this
