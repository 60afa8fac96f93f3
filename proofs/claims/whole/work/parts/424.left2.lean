theorem up_step {I : sk_S} (h : Inv I) {s f : Int} (hs : 0 ≤ s ∧ s < I 54 3) (hf : 0 ≤ f ∧ f < I 5 1) : I (68 + 7 * s) (sa I s f * 8 + 3 + 2) = hS I (s + 1) f - hS I s f := by
  have k := sc_at h hs
  have r := sa_rg h hs hf
  have g := (k.2.1.2 (sa I s f) r.1 r.2).2.2 2 (by decide) (by decide)
  rw [show 66 + 7 * s + 2 = 68 + 7 * s by omega] at g
  rw [g.2]
  unfold hS
  rw [pr_succ I hs.1, sa_succ I hs.1, (k.2.2.2 f hf.1 hf.2).2]
theorem home_step {I : sk_S} (h : Inv I) {s f : Int} (hs : 0 ≤ s ∧ s < I 54 3) (hf : 0 ≤ f ∧ f < I 5 1) : I (71 + 7 * s) (sa I (s + 1) f * 8 + 3 + 2) ≤ 0 := by
  have k := sc_at h hs
  have ht := pic_top h
  have r := sa_end h hs hf
  have g := (k.2.2.1.2 (sa I (s + 1) f) r.1 r.2)
  have g2 := g.2.2 2 (by decide) (by decide)
  rw [show 69 + 7 * s + 2 = 71 + 7 * s by omega] at g2
  rw [g2.2]
  have e1 : pc I (-1) (gl I (I (65 + 7 * s) 2) (-1) (I 5 1) (sa I (s + 1) f)) 2 = 0 := (h.1.2.2 _ g.1.2.1 g.1.2.2).1.2.2.1
  have k1 := k.1.1
  have e2 := pm_pc h (f := I (65 + 7 * s) 2) (k := sa I (s + 1) f) (c := 2) ⟨by omega, k1.2.2.1⟩ (by rw [pa_f k1.2.1, k1.2.2.2]; exact r) ⟨by decide, by decide⟩
  have e3 := (h.2.1.2.2 (I (65 + 7 * s) 2) k1.2.1 k1.2.2.1).2.2 (sa I (s + 1) f) r.1 (by rw [k1.2.2.2]; exact r.2)
  have e4 := e3.2.2.2.1
  unfold rg at e4
  rw [e1, ← e2]
  unfold pm
  rw [if_neg (by decide), if_neg (by decide), if_pos k1.2.1]
  omega
theorem s_chargeLeft {f : Int} {Q : Int → sk_S → Prop} {I : sk_S} (h : Inv I) (hf : 0 ≤ f ∧ f < I 5 1) (hQ : Q (lfe I f) I) : M_Show_chargeLeft f Q I := by
  have ht := show_top h
  have hl := fly_top h
  have ec := (h.1.2.2 f hf.1 hf.2).2.2.1
  refine s_Row_at (by rw [show (63 : Int) + 1 = 64 from rfl, lnn_64]; omega) ?_
  rw [show (63 : Int) + 1 = 64 from rfl, ec]
  intro X hX
  have key : ∀ m k : Nat, (m : Int) + k = I 54 3 → X (lf I f k) (sa I k f) k I := by
    intro m
    induction m with
    | zero =>
      intro k hk
      have ek : (k : Int) = I 54 3 := by omega
      refine hX _ _ _ _ (bT (by omega) ⟨fun q => ?_, fun q => ⟨by omega, s_Show_at (by omega) ?_⟩⟩)
      · unfold lfe at hQ
        rw [if_pos (by omega)] at hQ
        obtain rfl : k = 0 := by omega
        exact hQ
      · have b := (sc_at h (s := I 54 3 - 1) ⟨by omega, by omega⟩).1
        have b1 := b.2.1
        have hs := home_step h (s := I 54 3 - 1) (f := f) ⟨by omega, by omega⟩ hf
        have sr := sa_end h (s := I 54 3 - 1) (f := f) ⟨by omega, by omega⟩ hf
        rw [show I 54 3 - 1 + 1 = (k : Int) by omega] at hs sr
        have r := lf_rg h hf k (by omega)
        unfold lfe at hQ
        rw [if_neg (by omega), ← ek, Int.toNat_natCast] at hQ
        have b2 := b1.2.2
        unfold rg at b2
        refine s_charge (t := I 186 (I 54 3 - 1)) (k8 (kd_scn (by omega))).2 (by omega) (by rw [show 65 + 7 * (I 54 3 - 1) + 4 = 69 + 7 * (I 54 3 - 1) by omega]; exact b1.2.1) (by omega) rfl ?_
        rw [show 65 + 7 * (I 54 3 - 1) + 4 + 2 = 71 + 7 * (I 54 3 - 1) by omega, if_neg (by omega)]
        refine ⟨by omega, ?_⟩
        rw [← ek, Int.mul_comm]
        exact hQ
    | succ m ih =>
      intro k hk
      have hs : 0 ≤ (k : Int) ∧ (k : Int) < I 54 3 := ⟨by omega, by omega⟩
      have b := (sc_at h hs).1
      have b1 := b.2.1
      have b2 := b.2.2.1
      have b3 := b1.2.2
      have b4 := b2.2
      unfold rg at b3 b4
      have sr := sa_rg h hs hf
      have us := up_step h hs hf
      have gs := sc_goal h hs hf
      have r := lf_rg h hf (k + 1) (by omega)
      have e : lf I f (k + 1) = lf I f k - (2 * I 187 k + I 186 k * (if hS I k f < hS I (k + 1) f then 4 else 3)) := rfl
      refine hX _ _ _ _ (bF (by omega) (s_Show_at (by omega) ?_))
      refine s_charge (t := I 186 k) (u := hS I ((k : Int) + 1) f - hS I k f) (k8 (kd_scn (by omega))).1 (by omega) (by rw [show 65 + 7 * (k : Int) + 1 = 66 + 7 * k by omega]; exact b1.1) (by omega) (by rw [show 65 + 7 * (k : Int) + 1 + 2 = 68 + 7 * k by omega]; exact us) (s_Show_at (by omega) ?_)
      have ef : (if 0 < hS I ((k : Int) + 1) f - hS I k f then (4 : Int) else 3) = if hS I k f < hS I ((k : Int) + 1) f then 4 else 3 := by
        by_cases q : hS I k f < hS I ((k : Int) + 1) f
        · rw [if_pos q, if_pos (by omega)]
        · rw [if_neg q, if_neg (by omega)]
      rw [ef, b2.1]
      have e' : lf I f k - (I 186 k * (if hS I k f < hS I ((k : Int) + 1) f then 4 else 3) + 2 * I 187 k) = lf I f (k + 1) := by rw [e]; omega
      rw [e']
      refine ⟨by omega, nm (s_Show_at (by omega) (s_Pass_goal (k8 (kd_scn (by omega))).1 (by omega) ⟨by omega, nm ?_⟩))⟩
      rw [show 65 + 7 * (k : Int) + 1 + 2 = 68 + 7 * k by omega, gs]
      exact ih (k + 1) (by omega)
  have := key (I 54 3).toNat 0 (by omega)
  rw [show sa I ((0 : Nat) : Int) f = f from if_pos rfl] at this
  exact this
theorem s_leftTo {f : Int} {Q : Int → sk_S → Prop} {I : sk_S} (h : Inv I) (hf : 0 ≤ f ∧ f < I 5 1) (hQ : Q (lfe I f) I) : M_Mo_leftTo f Q I := by
  have ht := show_top h
  have hl := fly_top h
  have es := h.2.2.2.2.2.1.1
  refine ⟨by omega, nm ?_⟩
  intro X hX
  have key : ∀ m k : Nat, (m : Int) + k = I 54 3 → X (lf I f k) k I := by
    intro m
    induction m with
    | zero =>
      intro k hk
      have ek : (k : Int) = I 54 3 := by omega
      refine hX _ _ _ (bT (by omega) ⟨fun q => ?_, fun q => ?_⟩)
      · have b := (sc_at h (s := I 54 3 - 1) ⟨by omega, by omega⟩).1.2.1.2.2
        have r := lf_rg h hf k (by omega)
        unfold lfe at hQ
        rw [if_neg (by omega), ← ek, Int.toNat_natCast] at hQ
        unfold rg at b
        rw [← es, ← ek] at *
        exact ⟨by omega, by omega, hQ⟩
      · unfold lfe at hQ
        rw [if_pos (by omega)] at hQ
        obtain rfl : k = 0 := by omega
        exact hQ
    | succ m ih =>
      intro k hk
      have hs : 0 ≤ (k : Int) ∧ (k : Int) < I 54 3 := ⟨by omega, by omega⟩
      have b := (sc_at h hs).1
      have b3 := b.2.1.2.2
      have b4 := b.2.2.1.2
      unfold rg at b3 b4
      have r := lf_rg h hf (k + 1) (by omega)
      have e : lf I f (k + 1) = lf I f k - (2 * I 187 k + I 186 k * (if hS I k f < hS I (k + 1) f then 4 else 3)) := rfl
      refine hX _ _ _ (bF (by omega) ⟨by omega, by omega, ?_⟩)
      have hh := s_heightIn (f := f) (s := (k : Int) + 1) (I := I) (Q := fun r_35 I_35 => rI ((k : Int) - 1) ∧ M_Mo_heightIn f ((k : Int) - 1) (fun r_43 I_43 => ((r_35 ≤ r_43 → rI (2 * (I 187 k)) ∧ J_Mo_leftTo_54 f k (lf I f k) (2 * (I 187 k)) (I 186 k) 3 Q X I_43) ∧ (¬ r_35 ≤ r_43 → rI (2 * (I 187 k)) ∧ J_Mo_leftTo_54 f k (lf I f k) (2 * (I 187 k)) (I 186 k) 4 Q X I_43))) I_35) h ⟨by omega, by omega⟩ hf ?_
      · rw [show (k : Int) + 1 - 1 = k by omega] at hh
        exact hh
      · refine ⟨by omega, s_heightIn h ⟨by omega, by omega⟩ hf ?_⟩
        have nx := ih (k + 1) (by omega)
        refine ⟨fun q => ⟨by omega, ?_⟩, fun q => ⟨by omega, ?_⟩⟩
        · rw [if_neg (by omega)] at e
          rw [e] at nx r
          exact ⟨by omega, nm ⟨by omega, nm nx⟩⟩
        · rw [if_pos (by omega)] at e
          rw [e] at nx r
          exact ⟨by omega, nm ⟨by omega, nm nx⟩⟩
  exact key (I 54 3).toNat 0 (by omega)
theorem step_left {I : sk_S} (h : Inv I) (x : Int) {Q : Int → sk_S → Prop} (hQ : ∀ r I1, Two (M_Mo_left x) r I1 → Q r I1) : M_Sky_left x Q I := by
  have e8 := h.1.1
  refine s_isFlyer (fun q => z1 (s_chargeLeft h q (hQ _ _ fun K hK => ?_))) (fun q => z0 (hQ _ _ fun K hK => ?_))
  · exact s_Mo_isFlyer (fun _ => z1 (s_leftTo h q (Ok.use hK ⟨rfl, h⟩))) (fun r => absurd (by omega) r)
  · exact s_Mo_isFlyer (fun r => absurd (by omega) q) (fun _ => z0 (Ok.use hK ⟨rfl, h⟩))
/-- the flyers who can spend more than the margin -/
def lset (I : sk_S) : Nat → Int
  | 0 => 0
  | k + 1 => if lfe I k < I 54 4 then lset I k else ior (lset I k) (ishl 1 k)
theorem ior_0 (a : Int) (h : rI a) : ior a 0 = a := by
  unfold ior
  rw [show iI 0 = 0 from rfl, Int32.or_zero, iI_toInt h]
theorem ior_rg (a b : Int) : rI (ior a b) := by
  unfold ior
  exact rI_of _
theorem lset_rg (I : sk_S) : ∀ k : Nat, rI (lset I k) := by
  intro k
  induction k with
  | zero => exact (show rI 0 from ⟨by decide, by decide⟩)
  | succ k ih =>
    unfold lset
    split
    · exact ih
    · exact ior_rg _ _
theorem step_last {I : sk_S} (h : Inv I) {Q : Int → sk_S → Prop} (hQ : ∀ r I1, Two M_Mo_last r I1 → Q r I1) : M_Sky_last Q I := by
  have hl := fly_top h
  have e8 := h.1.1
  have em := h.2.2.1.2.2.2.2.1
  intro X hX
  have key : ∀ m k : Nat, (m : Int) + k = I 5 1 → X (lset I k) k I := by
    intro m
    induction m with
    | zero =>
      intro k hk
      refine hX _ _ _ (s_flyers (bT (by omega) (hQ _ _ fun K hK => ?_)))
      intro Y hY
      have key2 : ∀ m j : Nat, (m : Int) + j = I 5 1 → Y (lset I j) j I := by
        intro m
        induction m with
        | zero =>
          intro j hj
          obtain rfl : j = k := by omega
          exact hY _ _ _ (bT (by omega) (Ok.use hK ⟨rfl, h⟩))
        | succ m ih =>
          intro j hj
          have nx := ih (j + 1) (by omega)
          have e : lset I (j + 1) = if lfe I j < I 54 4 then lset I j else ior (lset I j) (ishl 1 j) := rfl
          refine hY _ _ _ (bF (by omega) (s_leftTo h ⟨by omega, by omega⟩ ⟨fun q => ?_, fun q => ?_⟩))
          · rw [if_pos (by omega)] at e
            refine nm ⟨by omega, nm ?_⟩
            rw [ior_0 _ (lset_rg I j), ← e]
            exact nx
          · rw [if_neg (by omega)] at e
            refine nm ⟨by omega, nm ?_⟩
            rw [← e]
            exact nx
      exact key2 (I 5 1).toNat 0 (by omega)
    | succ m ih =>
      intro k hk
      have nx := ih (k + 1) (by omega)
      have e : lset I (k + 1) = if lfe I k < I 54 4 then lset I k else ior (lset I k) (ishl 1 k) := rfl
      refine hX _ _ _ (s_flyers (bF (by omega) (s_chargeLeft h ⟨by omega, by omega⟩ ⟨fun q => ⟨by omega, nm ?_⟩, fun q => nm ⟨by omega, nm ?_⟩⟩)))
      · rw [if_pos q] at e
        rw [← e]; exact nx
      · rw [if_neg q] at e
        rw [← e]; exact nx
  exact key (I 5 1).toNat 0 (by omega)
