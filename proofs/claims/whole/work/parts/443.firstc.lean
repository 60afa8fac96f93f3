/-! ===== first: the class ===== -/
def CJ (I J : sk_S) : Prop := ∀ a k : Int, a ≠ 157 → J a k = I a k
theorem tick_rg {I : sk_S} (h : iMark I) {m : Int} (hm : 0 ≤ m ∧ m < I 149 4) : (0 ≤ I 192 m ∧ I 192 m ≤ 999) ∧ (-200 ≤ I 193 m ∧ I 193 m ≤ 200) ∧ (-200 ≤ I 194 m ∧ I 194 m ≤ 200) ∧ (0 ≤ I 195 m ∧ I 195 m ≤ 200) ∧ (0 ≤ I 191 m ∧ I 191 m ≤ 9) := by
  have g := (h.2.2.1 m hm.1 hm.2).2
  unfold rg at g
  exact ⟨g.2.1, g.2.2.1, g.2.2.2.1, g.2.2.2.2, g.1⟩
theorem s_toldJ {I J : sk_S} (h : iMark I) (hJ : CJ I J) {m c v : Int} {Q : Int → sk_S → Prop} (hm : 0 ≤ m ∧ m < I 149 4) (hc : 0 ≤ c ∧ c < 5) (e : I 151 (m * 5 + c) = v) (hQ : Q v J) : M_Foreign_told m c Q J := by
  have ht := mark_top h
  refine s_told151 (by omega) hc ?_
  rw [hJ _ _ (by decide), e]
  exact hQ
theorem s_end {I J : sk_S} (h : iMark I) (hJ : CJ I J) {m f t e : Int} {Q : Int → sk_S → Prop} (hm : 0 ≤ m ∧ m < I 149 4 ∧ I 191 m = f ∧ I 192 m = t) (he : mk I (I 149 4) f (t + 1) e) (hQ : Q (if 0 ≤ e then e else m) J) : M_Foreign_end m Q J := by
  have ht := mark_top h
  have tr := (tick_rg h ⟨hm.1, hm.2.1⟩).1
  have hr := h.2.2.2.2.2 m hm.1 hm.2.1
  rw [hm.2.2.1] at hr
  have em := end_mk h.2.2.2.1 hm hr he
  have e3 : I 151 (m * 5 + 3) = I 192 m := (h.2.2.1 m hm.1 hm.2.1).1.2.2.2
  have rr : I 151 (m * 5 + 4) = -1 ∨ (0 ≤ I 151 (m * 5 + 4) ∧ I 151 (m * 5 + 4) < I 149 4) := by
    rcases hr with q | q
    · exact Or.inl q.1
    · exact Or.inr ⟨by omega, q.2.1⟩
  have l : ln (150 + 1) = 1000 := lnn_151
  refine ⟨by omega, s_Row_at (by rw [l]; omega) ⟨by omega, s_Row_at (by rw [l]; omega) ?_⟩⟩
  rw [show (150 : Int) + 1 = 151 from rfl, hJ 151 _ (by decide), hJ 151 _ (by decide), e3]
  refine ⟨by omega, nm ⟨fun q => ?_, fun q => ⟨by omega, s_Row_at (by rw [l]; omega) ?_⟩⟩⟩
  · rw [em.2 (fun w => w.1 q), if_neg (by decide)] at hQ
    exact hQ
  · have e5 : I 151 (I 151 (m * 5 + 4) * 5 + 3) = I 192 (I 151 (m * 5 + 4)) := (h.2.2.1 _ (by omega) (by omega)).1.2.2.2
    rw [show (150 : Int) + 1 = 151 from rfl, hJ 151 _ (by decide), e5, hm.2.2.2]
    refine ⟨fun w => ?_, fun w => ?_⟩
    · rw [em.2 (fun v => w v.2), if_neg (by decide)] at hQ
      exact hQ
    · have ee := em.1 ⟨q, w⟩
      rw [if_pos (by omega), ee] at hQ
      exact hQ
theorem s_F_zone {I J : sk_S} (h : iMark I) (ha : iAir I) (hJ : CJ I J) {m f t e : Int} {Q : Int → sk_S → Prop} (hm : 0 ≤ m ∧ m < I 149 4 ∧ I 191 m = f ∧ I 192 m = t) (he : mk I (I 149 4) f (t + 1) e) (h1 : zo I m (if 0 ≤ e then e else m) → Q 1 J) (h0 : ¬ zo I m (if 0 ≤ e then e else m) → Q 0 J) : M_Foreign_isInZone m Q J := by
  have re : 0 ≤ (if 0 ≤ e then e else m) ∧ (if 0 ≤ e then e else m) < I 149 4 := by
    rcases mk_at he with q | q
    · rw [if_neg (by omega)]; exact ⟨hm.1, hm.2.1⟩
    · rw [if_pos q.1]; exact ⟨q.1, q.2.1⟩
  refine s_end h hJ hm he ?_
  generalize (if 0 ≤ e then e else m) = e' at h1 h0 re
  have g := h.2.2.1 m hm.1 hm.2.1
  have g' := h.2.2.1 e' re.1 re.2
  have r1 := tick_rg h ⟨hm.1, hm.2.1⟩
  have r2 := tick_rg h re
  obtain ⟨_, a2, a3, a4, _⟩ := ha
  have b2 := a2.2
  have b3 := a3.2
  have b4 := a4.2
  unfold rg at b2 b3 b4
  refine s_toldJ h hJ ⟨hm.1, hm.2.1⟩ (by decide) g.1.1 (s_toldJ h hJ ⟨hm.1, hm.2.1⟩ (by decide) g.1.2.1 (s_toldJ h hJ re (by decide) g'.1.1 (s_toldJ h hJ re (by decide) g'.1.2.1 ?_)))
  unfold M_Air_isInZone
  rw [hJ 36 1 (by decide), hJ 36 2 (by decide), hJ 36 3 (by decide)]
  refine ⟨by omega, by omega, by omega, by omega, ?_⟩
  exact s_isNearer (by omega) (by omega) (by decide) (by omega) (by omega) (by decide) (by omega) h1 h0
theorem s_F55 {I J : sk_S} (h : iMark I) (hJ : CJ I J) {a b a' b' G : Int} {Q : Int → sk_S → Prop} (ha : 0 ≤ a ∧ a < I 149 4) (hb : 0 ≤ b ∧ b < I 149 4) (ha' : 0 ≤ a' ∧ a' < I 149 4) (hb' : 0 ≤ b' ∧ b' < I 149 4) (eG : G = I 36 0) (hG : 0 ≤ G ∧ G ≤ 100) (h1 : ne' I a b a' b' → Q 1 J) (h0 : ¬ ne' I a b a' b' → Q 0 J) : J_Foreign_areNear_55 a b G a' b' Q J := by
  have g1 := h.2.2.1 a ha.1 ha.2
  have g2 := h.2.2.1 b hb.1 hb.2
  have g3 := h.2.2.1 a' ha'.1 ha'.2
  have g4 := h.2.2.1 b' hb'.1 hb'.2
  have r1 := tick_rg h ha
  have r2 := tick_rg h hb
  have r3 := tick_rg h ha'
  have r4 := tick_rg h hb'
  unfold ne' at h1 h0
  rw [← eG] at h1 h0
  refine s_toldJ h hJ ha (by decide) g1.1.1 (s_toldJ h hJ hb (by decide) g2.1.1 ⟨by omega, s_toldJ h hJ ha (by decide) g1.1.2.1 (s_toldJ h hJ hb (by decide) g2.1.2.1 ⟨by omega, s_toldJ h hJ ha (by decide) g1.1.2.2.1 (s_toldJ h hJ hb (by decide) g2.1.2.2.1 ⟨by omega, s_toldJ h hJ ha' (by decide) g3.1.1 (s_toldJ h hJ hb' (by decide) g4.1.1 ⟨by omega, s_toldJ h hJ ha' (by decide) g3.1.2.1 (s_toldJ h hJ hb' (by decide) g4.1.2.1 ⟨by omega, s_toldJ h hJ ha' (by decide) g3.1.2.2.1 (s_toldJ h hJ hb' (by decide) g4.1.2.2.1 ⟨by omega, ?_⟩)⟩)⟩)⟩)⟩)⟩)
  exact s_isNearer (by omega) (by omega) (by omega) (by omega) (by omega) (by omega) (by omega) h1 h0
theorem s_F_near {I J : sk_S} (h : iMark I) (hJ : CJ I J) {a b fa fb t ea eb G : Int} {Q : Int → sk_S → Prop} (ha : 0 ≤ a ∧ a < I 149 4 ∧ I 191 a = fa ∧ I 192 a = t) (hb : 0 ≤ b ∧ b < I 149 4 ∧ I 191 b = fb ∧ I 192 b = t) (hea : mk I (I 149 4) fa (t + 1) ea) (heb : mk I (I 149 4) fb (t + 1) eb) (eG : G = I 36 0) (hG : 0 ≤ G ∧ G ≤ 100) (h1 : ne' I a b (if 0 ≤ ea ∧ 0 ≤ eb then ea else a) (if 0 ≤ ea ∧ 0 ≤ eb then eb else b) → Q 1 J) (h0 : ¬ ne' I a b (if 0 ≤ ea ∧ 0 ≤ eb then ea else a) (if 0 ≤ ea ∧ 0 ≤ eb then eb else b) → Q 0 J) : M_Foreign_areNear a b G Q J := by
  have ra := mk_at hea
  have rb := mk_at heb
  -- an end is not the mark itself: its tick is another
  have na : 0 ≤ ea → (if 0 ≤ ea then ea else a) ≠ a := fun q w => by
    rw [if_pos q] at w
    subst w
    omega
  have nb : 0 ≤ eb → (if 0 ≤ eb then eb else b) ≠ b := fun q w => by
    rw [if_pos q] at w
    subst w
    omega
  have j22 : ¬ (0 ≤ ea ∧ 0 ≤ eb) → J_Foreign_areNear_22 a b G Q J := fun q => by
    rw [if_neg q, if_neg q] at h1 h0
    exact z0 (z0 (s_F55 h hJ ⟨ha.1, ha.2.1⟩ ⟨hb.1, hb.2.1⟩ ⟨ha.1, ha.2.1⟩ ⟨hb.1, hb.2.1⟩ eG hG h1 h0))
  refine s_end h hJ ha hea ?_
  by_cases qa : 0 ≤ ea
  · refine bF (na qa) (s_end h hJ hb heb ?_)
    by_cases qb : 0 ≤ eb
    · refine bF (nb qb) (z1 (s_end h hJ ha hea (z1 (s_end h hJ hb heb ?_))))
      rw [if_pos ⟨qa, qb⟩, if_pos ⟨qa, qb⟩] at h1 h0
      rw [if_pos qa, if_pos qb]
      exact s_F55 h hJ ⟨ha.1, ha.2.1⟩ ⟨hb.1, hb.2.1⟩ (by omega) (by omega) eG hG h1 h0
    · exact bT (if_neg qb) (j22 fun w => qb w.2)
  · exact bT (if_neg qa) (j22 fun w => qa w.1)
/-- what is known of a tick: the cursors tell who is there, by nw; th is who is there at the next one -/
def atT (I J : sk_S) (t : Int) (nw th : Int → Int) : Prop := ∀ f : Int, 0 ≤ f → f < 10 → (((J 157 f ≠ -1 ∧ I 192 (J 157 f) = t) → nw f = J 157 f) ∧ (¬ (J 157 f ≠ -1 ∧ I 192 (J 157 f) = t) → nw f = -1)) ∧ (J 157 f = -1 ∨ (0 ≤ J 157 f ∧ J 157 f < I 149 4)) ∧ mk I (I 149 4) f t (nw f) ∧ mk I (I 149 4) f (t + 1) (th f)
theorem s_isThere {I J : sk_S} (h : iMark I) (hJ : CJ I J) {f t : Int} {Q : Int → sk_S → Prop} (hf : 0 ≤ f ∧ f < 10) (hc : J 157 f = -1 ∨ (0 ≤ J 157 f ∧ J 157 f < I 149 4)) (h1 : (J 157 f ≠ -1 ∧ I 192 (J 157 f) = t) → Q 1 J) (h0 : ¬ (J 157 f ≠ -1 ∧ I 192 (J 157 f) = t) → Q 0 J) : M_Foreign_isThere f t Q J := by
  refine s_Row_at (by rw [show (156 : Int) + 1 = 157 from rfl, lnn_157]; exact hf) ⟨fun q => h0 fun w => w.1 q, fun q => ?_⟩
  have hm : 0 ≤ J 157 f ∧ J 157 f < I 149 4 := by
    rcases hc with w | w
    · exact absurd w q
    · exact w
  exact s_toldJ h hJ hm (by decide) (h.2.2.1 _ hm.1 hm.2).1.2.2.2 ⟨fun w => h0 fun v => w v.2, fun w => h1 ⟨q, w⟩⟩
theorem s_isThere2 {I J : sk_S} (h : iMark I) (hJ : CJ I J) {f t : Int} {nw th : Int → Int} {Q : Int → sk_S → Prop} (hf : 0 ≤ f ∧ f < 10) (hA : atT I J t nw th) (h1 : 0 ≤ nw f → J 157 f = nw f → Q 1 J) (h0 : nw f = -1 → Q 0 J) : M_Foreign_isThere f t Q J := by
  obtain ⟨⟨a1, a2⟩, a3, a4, a5⟩ := hA f hf.1 hf.2
  refine s_isThere h hJ hf a3 (fun q => h1 ?_ (a1 q).symm) (fun q => h0 (a2 q))
  rw [a1 q]
  omega
theorem nw_at {I J : sk_S} {f t : Int} {nw th : Int → Int} (hf : 0 ≤ f ∧ f < 10) (hA : atT I J t nw th) (q : 0 ≤ nw f) : 0 ≤ nw f ∧ nw f < I 149 4 ∧ I 191 (nw f) = f ∧ I 192 (nw f) = t := by
  rcases mk_at (hA f hf.1 hf.2).2.2.1 with w | w
  · omega
  · exact w
theorem s_partner {I J : sk_S} (h : iMark I) (hG : 0 ≤ I 36 0 ∧ I 36 0 ≤ 100) (hJ : CJ I J) {a t : Int} {nw th : Int → Int} {Q : Int → sk_S → Prop} (ha : 0 ≤ a ∧ a < 10) (hA : atT I J t nw th) (qa : 0 ≤ nw a) (h0 : (∀ b : Int, a < b → b < 10 → ¬ nP I nw th a b) → Q (-1) J) (h1 : ∀ b : Int, a < b → b < 10 → nP I nw th a b → (∀ b' : Int, a < b' → b' < b → ¬ nP I nw th a b') → Q b J) : M_Foreign_partner a t Q J := by
  have ea : J 157 a = nw a := by
    obtain ⟨⟨a1, a2⟩, _⟩ := hA a ha.1 ha.2
    by_cases w : J 157 a ≠ -1 ∧ I 192 (J 157 a) = t
    · exact (a1 w).symm
    · have := a2 w
      omega
  have l : ln (156 + 1) = 10 := lnn_157
  refine ⟨by omega, nm ?_⟩
  intro X hX
  have key : ∀ (m : Nat) (b : Int), b + m = 10 → a < b → (∀ b' : Int, a < b' → b' < b → ¬ nP I nw th a b') → X b J := by
    intro m
    induction m with
    | zero =>
      intro b q1 q2 q3
      exact hX _ _ (bT (by omega) (h0 fun b' w1 w2 => q3 b' w1 (by omega)))
    | succ m ih =>
      intro b q1 q2 q3
      have hb : 0 ≤ b ∧ b < 10 := by omega
      have nxt : ¬ nP I nw th a b → J_Foreign_partner_53 a t b Q X J := fun w => ⟨by omega, nm (ih (b + 1) (by omega) (by omega) fun b' w1 w2 => by
        by_cases c : b' = b
        · subst c; exact w
        · exact q3 b' w1 (by omega))⟩
      refine hX _ _ (bF (by omega) (s_isThere2 h hJ hb hA (fun qb eb => z1 ?_) (fun qb => z0 (nxt fun w => by have := w.2.1; omega))))
      refine s_Row_at (by rw [l]; exact ha) (s_Row_at (by rw [l]; exact hb) ?_)
      rw [show (156 : Int) + 1 = 157 from rfl, ea, eb, hJ 36 0 (by decide)]
      exact s_F_near h hJ (nw_at ha hA qa) (nw_at hb hA qb) (hA a ha.1 ha.2).2.2.2 (hA b hb.1 hb.2).2.2.2 rfl hG (fun w => z1 (h1 b q2 (by omega) ⟨qa, qb, w⟩ q3)) (fun w => z0 (nxt fun v => w v.2.2))
  exact key (10 - (a + 1)).toNat (a + 1) (by omega) (by omega) (fun b' w1 w2 => by omega)
theorem s_isClashAt {I J : sk_S} (h : iMark I) (hI : iAir I) (hJ : CJ I J) {t : Int} {nw th : Int → Int} {Q : Int → sk_S → Prop} (hA : atT I J t nw th) (h0 : rsN (zP I nw th) (nP I nw th) → Q 0 J) (h1 : ∀ x y : Int, rsF (zP I nw th) (nP I nw th) x y → Q 1 (up (up J 149 5 x) 149 6 y)) : M_Foreign_isClashAt t Q J := by
  have hG := hI.1.2
  unfold rg at hG
  have l : ln (156 + 1) = 10 := lnn_157
  intro X hX
  have key : ∀ (m : Nat) (a : Int), a + m = 10 → 0 ≤ a → (∀ a' : Int, 0 ≤ a' → a' < a → ¬ zP I nw th a' ∧ ∀ b : Int, a' < b → b < 10 → ¬ nP I nw th a' b) → X a J := by
    intro m
    induction m with
    | zero =>
      intro a q1 q2 q3
      obtain rfl : a = 10 := by omega
      exact hX _ _ (bT (by decide) (h0 q3))
    | succ m ih =>
      intro a q1 q2 q3
      have ha : 0 ≤ a ∧ a < 10 := by omega
      have nxt : (¬ zP I nw th a ∧ ∀ b : Int, a < b → b < 10 → ¬ nP I nw th a b) → J_Foreign_isClashAt_74 t a Q X J := fun w => ⟨by omega, nm (ih (a + 1) (by omega) (by omega) fun a' w1 w2 => by
        by_cases c : a' = a
        · subst c; exact w
        · exact q3 a' w1 (by omega))⟩
      refine hX _ _ (bF (by omega) (s_isThere2 h hJ ha hA (fun qa ea => z1 (s_Row_at (by rw [l]; exact ha) ?_)) (fun qa => z0 (nxt ⟨fun w => by have := w.1; omega, fun b _ _ w => by have := w.1; omega⟩))))
      rw [show (156 : Int) + 1 = 157 from rfl, ea]
      refine s_F_zone h hI hJ (nw_at ha hA qa) (hA a ha.1 ha.2).2.2.2 (fun w => z1 ?_) (fun w => z0 ?_)
      · exact n1 (h1 a (-1) ⟨ha, q3, Or.inl ⟨⟨qa, w⟩, rfl⟩⟩)
      · have nz : ¬ zP I nw th a := fun v => w v.2
        refine s_partner h hG hJ ha hA qa (fun v => n0 (bT rfl (nxt ⟨nz, v⟩))) (fun b v1 v2 v3 v4 => n0 (bF (by omega) (h1 a b ⟨ha, q3, Or.inr ⟨nz, v1, v2, v3, v4⟩⟩)))
  exact key 10 0 (by omega) (by omega) (fun a' w1 w2 => by omega)
theorem s_leastTick {I J : sk_S} (h : iMark I) (hJ : CJ I J) {last : Int} {Q : Int → sk_S → Prop} (hc : ∀ f : Int, 0 ≤ f → f < 10 → cur I (I 149 4) f last (J 157 f)) (hQ : ∀ t : Int, lt' I (I 149 4) last t → Q t J) : M_Foreign_leastTick Q J := by
  have l : ln (156 + 1) = 10 := lnn_157
  intro X hX
  have key : ∀ (m : Nat) (f v : Int), f + m = 10 → 0 ≤ f → ((v = 1000 ∧ ∀ g : Int, 0 ≤ g → g < f → J 157 g = -1) ∨ (v < 1000 ∧ (∃ g : Int, 0 ≤ g ∧ g < f ∧ J 157 g ≠ -1 ∧ I 192 (J 157 g) = v) ∧ ∀ g : Int, 0 ≤ g → g < f → J 157 g ≠ -1 → v ≤ I 192 (J 157 g))) → X v f J := by
    intro m
    induction m with
    | zero =>
      intro f v q1 q2 q3
      obtain rfl : f = 10 := by omega
      refine hX _ _ _ (bT (by decide) (hQ v ?_))
      rcases q3 with ⟨w1, w2⟩ | ⟨w1, ⟨g, g1, g2, g3, g4⟩, w3⟩
      · refine Or.inl ⟨w1, fun k k1 k2 => ?_⟩
        have fr := (tick_rg h ⟨k1, k2⟩).2.2.2.2
        rcases hc (I 191 k) fr.1 (by omega) with c | c
        · exact c.2 k k1 k2 rfl
        · have := w2 (I 191 k) fr.1 (by omega)
          omega
      · refine Or.inr ⟨w1, ?_, ?_, fun k k1 k2 k3 => ?_⟩
        · rcases hc g g1 (by omega) with c | c
          · exact absurd c.1 g3
          · omega
        · rcases hc g g1 (by omega) with c | c
          · exact absurd c.1 g3
          · exact ⟨J 157 g, c.1, c.2.1, g4⟩
        · have fr := (tick_rg h ⟨k1, k2⟩).2.2.2.2
          rcases hc (I 191 k) fr.1 (by omega) with c | c
          · have := c.2 k k1 k2 rfl
            omega
          · have a := w3 (I 191 k) fr.1 (by omega) (by omega)
            rcases Int.lt_or_le k (J 157 (I 191 k)) with e | e
            · have := c.2.2.2.2 k k1 e rfl
              omega
            · by_cases e2 : J 157 (I 191 k) = k
              · rw [e2] at a; exact a
              · have := h.2.2.2.1 (J 157 (I 191 k)) k c.1 (by omega) k2 c.2.2.1
                omega
    | succ m ih =>
      intro f v q1 q2 q3
      have hf : 0 ≤ f ∧ f < 10 := by omega
      refine hX _ _ _ (bF (by omega) (s_Row_at (by rw [l]; exact hf) ⟨fun w => ⟨by omega, nm (ih (f + 1) v (by omega) (by omega) ?_)⟩, fun w => ?_⟩))
      · rcases q3 with ⟨w1, w2⟩ | ⟨w1, ⟨g, g1, g2, g3, g4⟩, w3⟩
        · refine Or.inl ⟨w1, fun g g1 g2 => ?_⟩
          by_cases c : g = f
          · subst c; exact w
          · exact w2 g g1 (by omega)
        · refine Or.inr ⟨w1, ⟨g, g1, by omega, g3, g4⟩, fun g' e1 e2 e3 => ?_⟩
          by_cases c : g' = f
          · subst c; exact absurd w e3
          · exact w3 g' e1 (by omega) e3
      · have hm : 0 ≤ J 157 f ∧ J 157 f < I 149 4 := by
          rcases hc f hf.1 hf.2 with c | c
          · exact absurd c.1 w
          · exact ⟨c.1, c.2.1⟩
        have tr := (tick_rg h hm).1
        refine s_toldJ h hJ hm (by decide) (h.2.2.1 _ hm.1 hm.2).1.2.2.2 (nm ⟨by omega, nm (ih (f + 1) _ (by omega) (by omega) (Or.inr ?_))⟩)
        have w' : J 157 f ≠ -1 := w
        unfold imin
        by_cases c : I 192 (J 157 f) < v
        · rw [if_pos c]
          refine ⟨by omega, ⟨f, q2, by omega, w', rfl⟩, fun g g1 g2 g3 => ?_⟩
          by_cases e : g = f
          · subst e; exact Int.le_refl _
          · rcases q3 with ⟨w1, w2⟩ | ⟨w1, _, w3⟩
            · exact absurd (w2 g g1 (by omega)) g3
            · have := w3 g g1 (by omega) g3
              omega
        · rw [if_neg c]
          rcases q3 with ⟨w1, w2⟩ | ⟨w1, ⟨g, g1, g2, g3, g4⟩, w3⟩
          · omega
          · refine ⟨w1, ⟨g, g1, by omega, g3, g4⟩, fun g' e1 e2 e3 => ?_⟩
            by_cases e : g' = f
            · subst e; omega
            · exact w3 g' e1 (by omega) e3
  exact key 10 0 1000 (by omega) (by omega) (Or.inl ⟨rfl, fun g g1 g2 => by omega⟩)
theorem s_goBehind {I J : sk_S} (h : iMark I) (hJ : CJ I J) {t : Int} {Q : sk_S → Prop} (hc : ∀ f : Int, 0 ≤ f → f < 10 → J 157 f = -1 ∨ (0 ≤ J 157 f ∧ J 157 f < I 149 4)) (hQ : ∀ L : sk_S, CJ I L → (∀ f : Int, 0 ≤ f → f < 10 → ((J 157 f ≠ -1 ∧ I 192 (J 157 f) = t) → L 157 f = I 151 (J 157 f * 5 + 4)) ∧ (¬ (J 157 f ≠ -1 ∧ I 192 (J 157 f) = t) → L 157 f = J 157 f)) → Q L) : M_Foreign_goBehind t Q J := by
  have l : ln (156 + 1) = 10 := lnn_157
  intro X hX
  have key : ∀ (m : Nat) (f : Int) (L : sk_S), f + m = 10 → 0 ≤ f → CJ I L → (∀ g : Int, f ≤ g → L 157 g = J 157 g) → (∀ g : Int, 0 ≤ g → g < f → ((J 157 g ≠ -1 ∧ I 192 (J 157 g) = t) → L 157 g = I 151 (J 157 g * 5 + 4)) ∧ (¬ (J 157 g ≠ -1 ∧ I 192 (J 157 g) = t) → L 157 g = J 157 g)) → X f L := by
    intro m
    induction m with
    | zero =>
      intro f L q1 q2 q3 q4 q5
      obtain rfl : f = 10 := by omega
      exact hX _ _ (bT (by decide) (hQ L q3 q5))
    | succ m ih =>
      intro f L q1 q2 q3 q4 q5
      have hf : 0 ≤ f ∧ f < 10 := by omega
      have e := q4 f (Int.le_refl _)
      refine hX _ _ (bF (by omega) (s_isThere h q3 hf (by rw [e]; exact hc f hf.1 hf.2) (fun w => z1 ?_) (fun w => z0 ⟨by omega, nm (ih (f + 1) L (by omega) (by omega) q3 (fun g w1 => q4 g (by omega)) (fun g w1 w2 => ?_))⟩)))
      · rw [e] at w
        have hm : 0 ≤ J 157 f ∧ J 157 f < I 149 4 := by
          rcases hc f hf.1 hf.2 with v | v
          · exact absurd v w.1
          · exact v
        refine s_Row_at (by rw [l]; exact hf) ?_
        rw [show (156 : Int) + 1 = 157 from rfl, e]
        refine s_toldJ h q3 hm (by decide) rfl (s_Row_put (by rw [l]; exact hf) ⟨by omega, nm ?_⟩)
        rw [show (156 : Int) + 1 = 157 from rfl]
        refine ih (f + 1) _ (by omega) (by omega) (fun a k v => by rw [up_o (by omega)]; exact q3 a k v) (fun g w1 => by rw [up_o (by omega)]; exact q4 g (by omega)) (fun g w1 w2 => ?_)
        by_cases c : g = f
        · subst c
          rw [up_h]
          exact ⟨fun _ => rfl, fun v => absurd w v⟩
        · rw [up_o (by omega)]
          exact q5 g w1 (by omega)
      · rw [e] at w
        by_cases c : g = f
        · subst c
          exact ⟨fun v => absurd v w, fun _ => e⟩
        · exact q5 g w1 (by omega)
  exact key 10 0 J (by omega) (by omega) hJ (fun _ _ => rfl) (fun g w1 w2 => by omega)
