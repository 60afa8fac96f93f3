/-! ===== left, last ===== -/
/-- how high a flyer stands ahead of a scene -/
def hS (I : sk_S) (s f : Int) : Int := pc I (pr I s) (sa I s f) 2
theorem pr_succ (I : sk_S) {s : Int} (hs : 0 ≤ s) : pr I (s + 1) = I (65 + 7 * s) 2 := by
  unfold pr
  rw [if_neg (by omega), show s + 1 - 1 = s by omega]
theorem pr_rg {I : sk_S} (h : Inv I) {s : Int} (hs : 0 ≤ s ∧ s ≤ I 54 3) : -1 ≤ pr I s ∧ pr I s < I 4 3 := by
  have hp := pic_top h
  unfold pr
  split
  · omega
  · have k := (sc_at h (s := s - 1) ⟨by omega, by omega⟩).1.1
    omega
theorem pr_size {I : sk_S} (h : Inv I) {s : Int} (hs : 0 ≤ s ∧ s ≤ I 54 3) : I (pa (pr I s)) 1 = I 5 1 := by
  unfold pr
  split
  · rfl
  · have k := (sc_at h (s := s - 1) ⟨by omega, by omega⟩).1.1
    rw [pa_f k.2.1]
    exact k.2.2.2
theorem sa_all {I : sk_S} (h : Inv I) {s f : Int} (hs : 0 ≤ s ∧ s ≤ I 54 3) (hf : 0 ≤ f ∧ f < I 5 1) : 0 ≤ sa I s f ∧ sa I s f < I 5 1 := by
  by_cases q : s = 0
  · subst q; unfold sa; rw [if_pos rfl]; exact hf
  · have := sa_end h (s := s - 1) ⟨by omega, by omega⟩ hf
    rwa [show s - 1 + 1 = s by omega] at this
theorem hS_rg {I : sk_S} (h : Inv I) {s f : Int} (hs : 0 ≤ s ∧ s ≤ I 54 3) (hf : 0 ≤ f ∧ f < I 5 1) : -200 ≤ hS I s f ∧ hS I s f ≤ 200 :=
  pc_rg h (pr_rg h hs) (by rw [pr_size h hs]; exact sa_all h hs hf) ⟨by decide, by decide⟩
theorem s_heightIn {f s : Int} {Q : Int → sk_S → Prop} {I : sk_S} (h : Inv I) (hs : 0 ≤ s ∧ s ≤ I 54 3) (hf : 0 ≤ f ∧ f < I 5 1) (hQ : Q (hS I s f) I) : M_Mo_heightIn f (s - 1) Q I := by
  have ht := show_top h
  have hp := pic_top h
  have hl := fly_top h
  unfold hS at hQ
  by_cases q : s = 0
  · subst q
    refine bF (by omega) ?_
    unfold pr sa at hQ
    rw [if_pos rfl, if_pos rfl] at hQ
    have e : pc I (-1) f 2 = 0 := (h.1.2.2 f hf.1 hf.2).1.2.2.1
    rwa [e] at hQ
  · have k := (sc_at h (s := s - 1) ⟨by omega, by omega⟩).1.1
    have sr := sa_all h hs hf
    have er : pr I s = I (65 + 7 * (s - 1)) 2 := by unfold pr; rw [if_neg q]
    have es : sa I s f = I 189 (10 * (s - 1) + f) := by unfold sa; rw [if_neg q]
    have eh := pm_pc h (f := pr I s) (k := sa I s f) (c := 2) (pr_rg h hs) (by rw [pr_size h hs]; exact sr) ⟨by decide, by decide⟩
    rw [← eh] at hQ
    unfold pm at hQ
    rw [if_neg (by decide), if_neg (by decide), if_pos (by omega), er, es, k.1] at hQ
    rw [es] at sr
    refine bT (by omega) ⟨by omega, by omega, by omega, hQ⟩
/-- what is left behind the first k scenes -/
def lf (I : sk_S) (f : Int) : Nat → Int
  | 0 => I 161 f
  | k + 1 => lf I f k - (2 * I 187 k + I 186 k * (if hS I k f < hS I (k + 1) f then 4 else 3))
def lfe (I : sk_S) (f : Int) : Int := if I 54 3 = 0 then I 161 f else lf I f (I 54 3).toNat - 3 * I 186 (I 54 3 - 1)
theorem lf_rg {I : sk_S} (h : Inv I) {f : Int} (hf : 0 ≤ f ∧ f < I 5 1) : ∀ k : Nat, (k : Int) ≤ I 54 3 → -320 * k ≤ lf I f k ∧ lf I f k ≤ 100000 := by
  have c := (h.1.2.2 f hf.1 hf.2).2.2
  unfold rg at c
  intro k
  induction k with
  | zero => intro _; show -320 * ((0 : Nat) : Int) ≤ I 161 f ∧ I 161 f ≤ 100000; omega
  | succ k ih =>
    intro hk
    have a := ih (by omega)
    have b := (sc_at h (s := k) ⟨by omega, by omega⟩).1
    have b1 := b.2.1.2.2
    have b2 := b.2.2.1.2
    unfold rg at b1 b2
    have e : lf I f (k + 1) = lf I f k - (2 * I 187 k + I 186 k * (if hS I k f < hS I (k + 1) f then 4 else 3)) := rfl
    rw [e]
    split <;> omega
theorem s_charge {p i t u : Int} {Q : Int → sk_S → Prop} {I : sk_S} (hp : kd p = 4) (hi : 0 ≤ i ∧ i < 10) (e1 : I p 2 = t) (ht : 0 ≤ t ∧ t ≤ 30) (e2 : I (p + 2) (i * 8 + 3 + 2) = u) (h : Q (t * (if 0 < u then 4 else 3)) I) : M_Pass_charge p i Q I := by
  have l : ln (p + 1 + 1) = 80 := by rw [show p + 1 + 1 = p + 2 by omega]; exact ln4 hp
  refine ⟨by omega, s_Row_at (by rw [l]; omega) ?_⟩
  rw [show p + 1 + 1 = p + 2 by omega, e2]
  refine ⟨fun q => z0 ⟨by omega, ?_⟩, fun q => ⟨fun r => absurd r (by decide), fun _ => ⟨by omega, ?_⟩⟩⟩
  · rw [if_neg (by omega)] at h; rw [e1]; exact h
  · rw [if_pos (by omega)] at h; rw [e1]; exact h
