theorem ln_all2 : ∀ n : Nat, n < 198 → (kdL.getD n 99 = 4 → lnL.getD (n + 2) 0 = 80) ∧ (kdL.getD n 99 = 5 → lnL.getD (n + 2) 0 = 40) := by decide +kernel
theorem ln4 {a : Int} (h : kd a = 4) : ln (a + 2) = 80 := by
  have h1 := kd_in h
  rw [kd_nat _ h1.1] at h
  unfold ln
  rw [if_neg (by omega), show (a + 2).toNat = a.toNat + 2 by omega]
  exact (ln_all2 a.toNat (by omega)).1 h
theorem ln5 {a : Int} (h : kd a = 5) : ln (a + 2) = 40 := by
  have h1 := kd_in h
  rw [kd_nat _ h1.1] at h
  unfold ln
  rw [if_neg (by omega), show (a + 2).toNat = a.toNat + 2 by omega]
  exact (ln_all2 a.toNat (by omega)).2 h
theorem isr_0 : ∀ k : Nat, isr 0 k = true → False := by
  intro k h
  match k, h with
  | 0, h => simp [isr] at h
  | 1, h => simp [isr] at h
  | 2, h => simp [isr] at h
  | 3, h => simp [isr] at h
  | n + 4, h => simp [isr] at h
theorem isr_1 : ∀ k : Nat, isr 1 k = true → k = 0 ∨ k = 1 ∨ k = 2 ∨ k = 3 := by
  intro k h
  match k, h with
  | 0, h => simp
  | 1, h => simp
  | 2, h => simp
  | 3, h => simp
  | 4, h => simp [isr] at h
  | 5, h => simp [isr] at h
  | 6, h => simp [isr] at h
  | n + 7, h => simp [isr] at h
theorem isr_2 : ∀ k : Nat, isr 2 k = true → k = 0 ∨ k = 1 ∨ k = 2 := by
  intro k h
  match k, h with
  | 0, h => simp
  | 1, h => simp
  | 2, h => simp
  | 3, h => simp [isr] at h
  | n + 4, h => simp [isr] at h
theorem isr_3 : ∀ k : Nat, isr 3 k = true → k = 0 ∨ k = 1 ∨ k = 2 := by
  intro k h
  match k, h with
  | 0, h => simp
  | 1, h => simp
  | 2, h => simp
  | 3, h => simp [isr] at h
  | 4, h => simp [isr] at h
  | 5, h => simp [isr] at h
  | n + 6, h => simp [isr] at h
theorem isr_4 : ∀ k : Nat, isr 4 k = true → k = 0 := by
  intro k h
  match k, h with
  | 0, h => simp
  | 1, h => simp [isr] at h
  | 2, h => simp [isr] at h
  | n + 3, h => simp [isr] at h
theorem isr_5 : ∀ k : Nat, isr 5 k = true → k = 0 := by
  intro k h
  match k, h with
  | 0, h => simp
  | 1, h => simp [isr] at h
  | n + 2, h => simp [isr] at h
theorem isr_6 : ∀ k : Nat, isr 6 k = true → k = 0 ∨ k = 1 ∨ k = 2 := by
  intro k h
  match k, h with
  | 0, h => simp
  | 1, h => simp
  | 2, h => simp
  | n + 3, h => simp [isr] at h
theorem isr_7 : ∀ k : Nat, isr 7 k = true → k = 0 := by
  intro k h
  match k, h with
  | 0, h => simp
  | n + 1, h => simp [isr] at h
theorem isr_8 : ∀ k : Nat, isr 8 k = true → k = 0 ∨ k = 1 := by
  intro k h
  match k, h with
  | 0, h => simp
  | 1, h => simp
  | 2, h => simp [isr] at h
  | 3, h => simp [isr] at h
  | 4, h => simp [isr] at h
  | n + 5, h => simp [isr] at h
theorem isr_9 : ∀ k : Nat, isr 9 k = true → k = 0 ∨ k = 1 ∨ k = 2 := by
  intro k h
  match k, h with
  | 0, h => simp
  | 1, h => simp
  | 2, h => simp
  | 3, h => simp [isr] at h
  | 4, h => simp [isr] at h
  | n + 5, h => simp [isr] at h
theorem isr_10 : ∀ k : Nat, isr 10 k = true → k = 0 := by
  intro k h
  match k, h with
  | 0, h => simp
  | 1, h => simp [isr] at h
  | 2, h => simp [isr] at h
  | 3, h => simp [isr] at h
  | n + 4, h => simp [isr] at h
theorem isr_11 : ∀ k : Nat, isr 11 k = true → k = 0 ∨ k = 1 ∨ k = 2 ∨ k = 3 ∨ k = 4 ∨ k = 5 ∨ k = 6 ∨ k = 7 := by
  intro k h
  match k, h with
  | 0, h => simp
  | 1, h => simp
  | 2, h => simp
  | 3, h => simp
  | 4, h => simp
  | 5, h => simp
  | 6, h => simp
  | 7, h => simp
  | n + 8, h => simp [isr] at h
theorem isr_12 : ∀ k : Nat, isr 12 k = true → k = 0 ∨ k = 1 ∨ k = 2 ∨ k = 3 ∨ k = 4 ∨ k = 5 ∨ k = 6 ∨ k = 7 ∨ k = 14 ∨ k = 18 ∨ k = 19 ∨ k = 20 ∨ k = 21 ∨ k = 22 ∨ k = 23 ∨ k = 24 ∨ k = 25 ∨ k = 26 ∨ k = 27 ∨ k = 28 ∨ k = 29 ∨ k = 30 ∨ k = 31 ∨ k = 32 ∨ k = 33 ∨ k = 34 ∨ k = 35 ∨ k = 36 ∨ k = 37 ∨ k = 38 ∨ k = 39 ∨ k = 40 ∨ k = 43 ∨ k = 44 ∨ k = 45 ∨ k = 46 ∨ k = 47 ∨ k = 51 ∨ k = 52 := by
  intro k h
  match k, h with
  | 0, h => simp
  | 1, h => simp
  | 2, h => simp
  | 3, h => simp
  | 4, h => simp
  | 5, h => simp
  | 6, h => simp
  | 7, h => simp
  | 8, h => simp [isr] at h
  | 9, h => simp [isr] at h
  | 10, h => simp [isr] at h
  | 11, h => simp [isr] at h
  | 12, h => simp [isr] at h
  | 13, h => simp [isr] at h
  | 14, h => simp
  | 15, h => simp [isr] at h
  | 16, h => simp [isr] at h
  | 17, h => simp [isr] at h
  | 18, h => simp
  | 19, h => simp
  | 20, h => simp
  | 21, h => simp
  | 22, h => simp
  | 23, h => simp
  | 24, h => simp
  | 25, h => simp
  | 26, h => simp
  | 27, h => simp
  | 28, h => simp
  | 29, h => simp
  | 30, h => simp
  | 31, h => simp
  | 32, h => simp
  | 33, h => simp
  | 34, h => simp
  | 35, h => simp
  | 36, h => simp
  | 37, h => simp
  | 38, h => simp
  | 39, h => simp
  | 40, h => simp
  | 41, h => simp [isr] at h
  | 42, h => simp [isr] at h
  | 43, h => simp
  | 44, h => simp
  | 45, h => simp
  | 46, h => simp
  | 47, h => simp
  | 48, h => simp [isr] at h
  | 49, h => simp [isr] at h
  | 50, h => simp [isr] at h
  | 51, h => simp
  | 52, h => simp
  | n + 53, h => simp [isr] at h
theorem uB_m {B : Int → Int → Bool} {a k x j : Int} (h : B x j = true) : uB B a k x j = true := by unfold uB; split; rfl; exact h
theorem bx_m {B : Int → Int → Bool} {a k x j : Int} (h : B x j = true) : bx B a k x j = true := by unfold bx; split; rfl; exact h
theorem uB_h {B : Int → Int → Bool} {a k x j : Int} (hx : x = a) (hj : j = k) : uB B a k x j = true := by unfold uB; rw [if_pos ⟨hx, hj⟩]
theorem bx_h {B : Int → Int → Bool} {a k x j : Int} (h : a ≤ x ∧ x < k) : bx B a k x j = true := by unfold bx; rw [if_pos h]
theorem uB_o {B : Int → Int → Bool} {a k x j : Int} (h : x ≠ a) : uB B a k x j = B x j := by unfold uB; rw [if_neg (fun q => h q.1)]
theorem bx_o {B : Int → Int → Bool} {a k x j : Int} (h : ¬ (a ≤ x ∧ x < k)) : bx B a k x j = B x j := by unfold bx; rw [if_neg h]
theorem I0_arr {a : Int} (h : kd a = 4 ∨ kd a = 5) (q : Int) : I0 (a + 2) q = 0 := by
  have h1 : kd (a + 2) = 13 := by
    rw [show a + 2 = a + 1 + 1 by omega]
    rcases h with h | h
    · exact k7 (k4 h)
    · exact k7 (k5 h)
  unfold I0
  rw [h1]
  simp only []
  rw [if_neg]
  intro q
  rcases q.1 with q | q
  · rw [show a = 151 by omega, kdn_151] at h; omega
  · rw [show a = 153 by omega, kdn_153] at h; omega
theorem mo_arr : ∀ i : Nat, 159 ≤ i → i < 198 → kd i = 13 := by
  have h : ∀ j : Nat, j < 39 → kd ((159 + j : Nat) : Int) = 13 := by decide +kernel
  intro i h1 h2
  have := h (i - 159) (by omega)
  rwa [show 159 + (i - 159) = i by omega] at this
theorem cw.fill {G : sk_G} {n : Nat} {B : Int → Int → Bool} {H : Heap} {I' : sk_S} {r : Int} (h : sk_H G n B I' H) (hI : ∀ b j, I' b j = if b = r + 1 ∧ 0 ≤ j ∧ j < ln (r + 1) then -1 else cI B b j) (hr : r = 152 ∨ r = 154) : cw G n (bx B (r + 1) (r + 2)) H := by
  have hk : kd (r + 1) = 13 := by rcases hr with rfl | rfl <;> decide +kernel
  have hl : ln (r + 1) = 10 := by rcases hr with rfl | rfl <;> decide +kernel
  refine sk_H.cong h (fun i hi j hj => ?_) (fun i hi j => ?_) (cI_r _)
  · by_cases e : (i : Int) = r + 1
    · unfold isrs at hj; rw [e, hk] at hj; simp at hj
    · exact (bx_o (by omega)).symm
  · rw [hI, hl]
    by_cases e : (i : Int) = r + 1
    · have h2 : cI (bx B (r + 1) (r + 2)) i j = I0 (r + 1) j := by
        unfold cI; rw [e, bx_h (by omega), if_pos rfl]
      have h3 : I0 (r + 1) j = if 0 ≤ j ∧ j < 10 then -1 else 0 := by
        unfold I0; rw [hk]; simp only []
        by_cases q : 0 ≤ j ∧ j < 10
        · rw [if_pos q, if_pos ⟨by omega, q⟩]
        · rw [if_neg q, if_neg (by omega)]
      rw [h2, h3]
      by_cases q : 0 ≤ j ∧ j < 10
      · rw [if_pos q, if_pos ⟨e, q⟩]
      · rw [if_neg q, if_neg (by omega), e]
        exact cI_0 (by rw [h3, if_neg q])
    · rw [if_neg (by omega)]
      unfold cI
      rw [bx_o (by omega : ¬ (r + 1 ≤ (i : Int) ∧ (i : Int) < r + 2))]
set_option maxHeartbeats 4000000 in
set_option maxRecDepth 100000 in
theorem c_Row_init (l : Launch) (G : sk_G) {a : Int} {n : Nat} {B : Int → Int → Bool} (hk : kd a = 7) (hn : (n : Int) = a + 1) (hB : ∀ x k, (n : Int) ≤ x → B x k = false) (p1 : Int) (hp : ln (a + 1) = p1) (h0 : 0 < p1) (sz : Nat) (hsz : p1 = sz) (hs1 : sz ≤ 100000) : Met l yX7_init wsX7_init ({ frames := 1, cells := 1, slots := sz, locals := 12 }) (va_Pc [.ref (sk_ad G a), .int (iI p1)] (cU G n B)) (cQ G (n + 1) (bx B a (a + 1))) 1 sz (sk_A G) := by
  have ha := kd_in hk
  refine Met.ofW (cc := cX7_init) (maxL := 2) (ret := none) (by decide) rfl ?_
  intro p e s m args below meth c s₁ B9 hml hv
  obtain ⟨rfl, hU, hK⟩ := hv
  have hx := B9.exec
  have hb := B9.bytes
  have hr0 := B9.returns
  have hts := atoms_spec (ws := wsX7_init) B9.pre
  have hown : s.vm.findClass RX7 = some m.cls := findClass_of_methodNamed B9.named
  have hlocks := B9.notSynchronized
  have hin : meth.name = "<init>" := (name_of_methodNamed B9.named B9.method).1
  have S : CallFix p m c cX7_init 2 s ([.ref (sk_ad G a), .int (iI p1)].toArray) wsX7_init RX7 := ⟨hx, hb, hml, hown, hts⟩
  have hL0 := hts (.methodLink RX7 1 objectInit) (by decide +kernel)
  have hL1 := hts (.instanceMethod objectInit) (by decide +kernel)
  have hL2 := hts (.code objectInit ⟨#[0xb1]⟩ 1 none) (by decide +kernel)
  have hL3 := hts (.arrayClass .int) (by decide +kernel)
  have hL4 := hts (.fieldLink RX7 7 "SkyLights$Row" "cells" "[I") (by decide +kernel)
  have hI7 : ∀ w ∈ u_ws RX7 TX7 1, w ∈ wsX7_init := by decide +kernel
  have hS : va_S (sk_A G) s.heap s.heap [] := va_S.rf
  have hw := hU
  have hl := lv_entry ([.ref (sk_ad G a), .int (iI p1)]) (n := 2) (Nat.le_of_ble_eq_true rfl)
  rw [lg_entry_eq]
  generalize (lg_sl ([.ref (sk_ad G a), .int (iI p1)]) ++ List.replicate (2 - (lg_sl ([.ref (sk_ad G a), .int (iI p1)])).length) Slot.unset).toArray = ls at hl ⊢
  have hl : lv_has ls 2 [(0, .ref (sk_ad G a)), (1, .int (iI p1))] := hl
  have hrp : rI p1 := ⟨by omega, by omega⟩
  refine lv_aload_n hx hb (okX7_init (0, .aload_n 0, 1) (List.mem_of_getElem? (i := 0) rfl)) rfl (lv_at hl 0 rfl) ?_
  refine W.objInit hx hb hown hL0 hL1 hL2 rfl (by rw [hml]; exact hl.1) rfl (okX7_init (1, .invokespecial 1, 3) (List.mem_of_getElem? (i := 1) rfl)) (Nat.le_of_ble_eq_true rfl) (Nat.le_of_ble_eq_true rfl) ?_
  refine W.eq (g2 := F0 m 4 ls []) rfl ?_
  refine lv_aload_n hx hb (okX7_init (4, .aload_n 0, 1) (List.mem_of_getElem? (i := 2) rfl)) rfl (lv_at hl 0 rfl) ?_
  refine lv_iload_n hx hb (okX7_init (5, .iload_n 1, 1) (List.mem_of_getElem? (i := 3) rfl)) rfl (lv_at hl 1 rfl) ?_
  refine sk_if_le (tgt := 13) hx hb hrp (okX7_init (6, .ifCond .le 7, 3) (List.mem_of_getElem? (i := 4) rfl)) (by decide) (fun c6 => absurd c6 (by omega)) (fun c6 => ?_)
  refine lv_iload_n hx hb (okX7_init (9, .iload_n 1, 1) (List.mem_of_getElem? (i := 5) rfl)) rfl (lv_at hl 1 rfl) ?_
  refine lv_goto (tgt := 14) hx hb (okX7_init (10, .goto 4, 3) (List.mem_of_getElem? (i := 6) rfl)) (by decide) ?_
  refine sk_newI (n := n) (N := sz) S hK hw hS hB (by rw [hn]; exact k7 hk) (by rw [hn]; exact hp) hsz hs1 hL3 ⟨Nat.le_of_ble_eq_true rfl, by show 0 + sz ≤ sz; omega⟩ (okX7_init (14, .newarray .int, 2) (List.mem_of_getElem? (i := 8) rfl)) (fun H hw hS => ?_)
  refine sk_putr (b := (n : Int)) S hK hw hS hk (by omega) (T := TX7) (N := 1) rfl hI7 tyX7 tyX7_ok nmX7 0 ⟨by decide, rfl, by decide, rfl, rfl⟩ rfl rfl hin (k' := 0) rfl (by rw [rf7 hk]; omega) (fun _ => ⟨rfl, rfl⟩) hL4 (okX7_init (16, .putfield 7, 3) (List.mem_of_getElem? (i := 9) rfl)) (fun H locs hw hS => ?_)
  have hfin : cw G (n + 1) (bx B a (a + 1)) H := by
    refine hw.cong (fun i hi q hq => ?_) (fun i hi q => ?_)
    · by_cases e : (i : Int) = a
      · unfold isrs at hq; rw [e, hk] at hq; rw [e]
        rcases isr_7 q hq with h
        subst h; exact (uB_h rfl rfl).trans (bx_h (by omega)).symm
      · exact (uB_o e).trans (bx_o (by omega)).symm
    · by_cases e : (i : Int) = a
      · right; unfold I0; rw [e, hk]; try rfl
      · left; exact (uB_o e).trans (bx_o (by omega)).symm
  refine W.widen (k := 1) (n := sz) (by decide) (by omega) ?_
  exact cU_ret hx hb hr0 hlocks hK hfin hS (okX7_init (19, .return_, 1) (List.mem_of_getElem? (i := 10) rfl))
def rmX7_fill_c : Room := { frames := 0, cells := 0, slots := 0, locals := 0 }
set_option maxHeartbeats 4000000 in
set_option maxRecDepth 100000 in
theorem c_Row_fill_c (l : Launch) (G : sk_G) {n : Nat} {B : Int → Int → Bool} {p0 p1 : Int} (hk_p0 : kd p0 = 7) (hr_p1 : rI p1) (ha0 : 0 ≤ p0 ∧ p0 < n) (ha1 : 0 ≤ p0 + 1 ∧ p0 + 1 < n) (hb0 : B p0 0 = true) {Q : sk_S → Prop} {I : sk_S} (hM : M_Row_fill p0 p1 Q I) : Met l yX7_fill wsX7_fill rmX7_fill_c (va_Pc [.ref (sk_ad G p0), .int (iI p1)] (sk_U G n B I)) (sk_Qv G n B Q) 0 0 (sk_A G) := by
  refine Met.ofW (cc := cX7_fill) (maxL := 3) (ret := none) (by decide) rfl ?_
  intro p e s m args below meth c s₁ B9 hml hv
  obtain ⟨rfl, hU, hK⟩ := hv
  have hx := B9.exec
  have hb := B9.bytes
  have hr0 := B9.returns
  have hts := atoms_spec (ws := wsX7_fill) B9.pre
  have hown : s.vm.findClass RX7 = some m.cls := findClass_of_methodNamed B9.named
  have hlocks := B9.notSynchronized
  have S : CallFix p m c cX7_fill 3 s ([.ref (sk_ad G p0), .int (iI p1)].toArray) wsX7_fill RX7 := ⟨hx, hb, hml, hown, hts⟩
  have hL0 := hts (.fieldLink RX7 7 "SkyLights$Row" "cells" "[I") (by decide +kernel)
  have hI7 : ∀ w ∈ u_ws RX7 TX7 1, w ∈ wsX7_fill := by decide +kernel
  have hw : sk_W G n B I s s.heap [] := ⟨hU, va_S.rf⟩
  have hl := lv_entry ([.ref (sk_ad G p0), .int (iI p1)]) (n := 3) (Nat.le_of_ble_eq_true rfl)
  rw [lg_entry_eq]
  generalize (lg_sl ([.ref (sk_ad G p0), .int (iI p1)]) ++ List.replicate (3 - (lg_sl ([.ref (sk_ad G p0), .int (iI p1)])).length) Slot.unset).toArray = ls at hl ⊢
  have hl : lv_has ls 3 [(0, .ref (sk_ad G p0)), (1, .int (iI p1))] := hl
  suffices hgo : ∀ (H : Heap) (locs : List Loc), sk_W G n B I s H locs → W p l e (headSpec wsX7_fill rmX7_fill_c).room s m ([.ref (sk_ad G p0), .int (iI p1)].toArray) below meth c H locs 0 0 (MQ below (sk_Qv G n B Q) ([.ref (sk_ad G p0), .int (iI p1)].toArray) s 0 0 (sk_A G)) (F0 m 0 ls []) from hgo _ _ hw
  have hJ_2 : ∀ (v0 v1 v2 : Int) (I : sk_S), kd v0 = 7 → (0 ≤ v0 ∧ v0 < n) → (0 ≤ v0 + 1 ∧ v0 + 1 < n) → B v0 0 = true → rI v1 → rI v2 → L_Row_fill_2 v0 v1 Q v2 I → ∀ (H : Heap) (locs : List Loc) (ls : Array Slot), sk_W G n B I s H locs → lv_has ls 3 [(0, .ref (sk_ad G v0)), (1, .int (iI v1)), (2, .int (iI v2))] → W p l e (headSpec wsX7_fill rmX7_fill_c).room s m ([.ref (sk_ad G p0), .int (iI p1)].toArray) below meth c H locs 0 0 (MQ below (sk_Qv G n B Q) ([.ref (sk_ad G p0), .int (iI p1)].toArray) s 0 0 (sk_A G)) (F0 m 2 ls []) := by
    intro v0 v1 v2 I hk_v0 ha0 ha1 hb0 hr_v1 hr_v2 hM H locs ls hw hl
    unfold L_Row_fill_2 at hM
    obtain ⟨X_2, hX_2⟩ : ∃ X : Int → sk_S → Prop, ∀ (v2 : Int) (I : sk_S), X v2 I ↔ (rI v2 → ∀ (H : Heap) (locs : List Loc) (ls : Array Slot), sk_W G n B I s H locs → lv_has ls 3 [(0, .ref (sk_ad G v0)), (1, .int (iI v1)), (2, .int (iI v2))] → W p l e (headSpec wsX7_fill rmX7_fill_c).room s m ([.ref (sk_ad G p0), .int (iI p1)].toArray) below meth c H locs 0 0 (MQ below (sk_Qv G n B Q) ([.ref (sk_ad G p0), .int (iI p1)].toArray) s 0 0 (sk_A G)) (F0 m 2 ls [])) := ⟨_, fun _ _ => Iff.rfl⟩
    refine (hX_2 v2 I).1 (hM X_2 (fun v2 I hM => (hX_2 v2 I).2 (fun hr_v2 H locs ls hw hl => ?_))) hr_v2 H locs ls hw hl
    refine lv_iload_n hx hb (okX7_fill (2, .iload_n 2, 1) (List.mem_of_getElem? (i := 2) rfl)) rfl (lv_at hl 2 rfl) ?_
    refine lv_aload_n hx hb (okX7_fill (3, .aload_n 0, 1) (List.mem_of_getElem? (i := 3) rfl)) rfl (lv_at hl 0 rfl) ?_
    refine sk_getr (b := (v0 + 1)) S hK hw hk_v0 ha0 (C := RX7) (T := TX7) (N := 1) rfl hI7 0 ⟨by decide, rfl, by decide, rfl⟩ rfl (k' := 0) rfl hb0 (rf7 hk_v0) hL0 (okX7_fill (4, .getfield 7, 3) (List.mem_of_getElem? (i := 4) rfl)) ?_
    refine sk_len S hK hw (Or.inl (k7 hk_v0)) ha1 (okX7_fill (7, .arraylength, 1) (List.mem_of_getElem? (i := 5) rfl)) ?_
    refine sk_icmp_ge (tgt := 24) hx hb hr_v2 (ln_r _).1 (okX7_fill (8, .if_icmp .ge 16, 3) (List.mem_of_getElem? (i := 6) rfl)) (by decide) (fun c8 => ?_) (fun c8 => ?_)
    · have hM := hM.1 c8
      exact sk_vret hx hb hr0 hlocks hK hw hM (okX7_fill (24, .return_, 1) (List.mem_of_getElem? (i := 14) rfl))
    · have hM := hM.2 c8
      refine lv_aload_n hx hb (okX7_fill (11, .aload_n 0, 1) (List.mem_of_getElem? (i := 7) rfl)) rfl (lv_at hl 0 rfl) ?_
      refine sk_getr (b := (v0 + 1)) S hK hw hk_v0 ha0 (C := RX7) (T := TX7) (N := 1) rfl hI7 0 ⟨by decide, rfl, by decide, rfl⟩ rfl (k' := 0) rfl hb0 (rf7 hk_v0) hL0 (okX7_fill (12, .getfield 7, 3) (List.mem_of_getElem? (i := 8) rfl)) ?_
      refine lv_iload_n hx hb (okX7_fill (15, .iload_n 2, 1) (List.mem_of_getElem? (i := 9) rfl)) rfl (lv_at hl 2 rfl) ?_
      refine lv_iload_n hx hb (okX7_fill (16, .iload_n 1, 1) (List.mem_of_getElem? (i := 10) rfl)) rfl (lv_at hl 1 rfl) ?_
      obtain ⟨hi1, hM⟩ := hM
      refine sk_ist S hK hw (k7 hk_v0) ha1 hi1 hr_v1 (okX7_fill (17, .iastore, 1) (List.mem_of_getElem? (i := 11) rfl)) (fun H locs hw => ?_)
      obtain ⟨hr2, hM⟩ := hM
      obtain ⟨v2_18, ev2_18⟩ : ∃ y : Int, y = v2 + 1 := ⟨_, rfl⟩
      have hM := hM v2_18 ev2_18
      have hr_v2_18 : rI v2_18 := by rw [ev2_18]; exact hr2
      refine lv_iinc (v := iI v2_18) (lv' := [(2, .int (iI v2_18)), (0, .ref (sk_ad G v0)), (1, .int (iI v1))]) hx hb (okX7_fill (18, .iinc 2 1, 3) (List.mem_of_getElem? (i := 12) rfl)) hl (k := 2) rfl (by rw [ev2_18]; exact iI_add _ _) (by decide) rfl (fun ls hl => ?_)
      refine lv_goto (tgt := 2) hx hb (okX7_fill (21, .goto (-19), 3) (List.mem_of_getElem? (i := 13) rfl)) (by decide) ?_
      exact (hX_2 v2_18 (up I (v0 + 1) v2 v1)).1 hM hr_v2_18 H locs ls hw (lv_sub hl [1, 2, 0] rfl)
  unfold M_Row_fill at hM
  intro H locs hw
  refine lv_iconst (v := iI 0) hx hb (okX7_fill (0, .iconst 0, 1) (List.mem_of_getElem? (i := 0) rfl)) rfl ?_
  refine lv_istore_n (lv' := [(2, .int (iI 0)), (0, .ref (sk_ad G p0)), (1, .int (iI p1))]) hx hb (okX7_fill (1, .istore_n 2, 1) (List.mem_of_getElem? (i := 1) rfl)) rfl hl (by decide) rfl (fun ls hl => ?_)
  exact hJ_2 p0 p1 0 I hk_p0 ha0 ha1 hb0 hr_p1 (by decide) hM H locs ls hw (lv_sub hl [1, 2, 0] rfl)
set_option maxHeartbeats 4000000 in
set_option maxRecDepth 100000 in
theorem c_Places_init (l : Launch) (G : sk_G) {a : Int} {n : Nat} {B : Int → Int → Bool} (hk : kd a = 5) (hn : (n : Int) = a + 1) (hB : ∀ x k, (n : Int) ≤ x → B x k = false) : Met l yX5_init wsX5_init ({ frames := 2, cells := 2, slots := 41, locals := 33 }) (va_Pc [.ref (sk_ad G a)] (cU G (n) B)) (cQ G (n + 2) (bx B a ((n + 2 : Nat) : Int))) 2 41 (sk_A G) := by
  have ha := kd_in hk
  refine Met.ofW (cc := cX5_init) (maxL := 1) (ret := none) (by decide) rfl ?_
  intro p e s m args below meth c s₁ B9 hml hv
  obtain ⟨rfl, hU, hK⟩ := hv
  have hx := B9.exec
  have hb := B9.bytes
  have hr0 := B9.returns
  have hts := atoms_spec (ws := wsX5_init) B9.pre
  have hown : s.vm.findClass RX5 = some m.cls := findClass_of_methodNamed B9.named
  have hlocks := B9.notSynchronized
  have hin : meth.name = "<init>" := (name_of_methodNamed B9.named B9.method).1
  have S : CallFix p m c cX5_init 1 s ([.ref (sk_ad G a)].toArray) wsX5_init RX5 := ⟨hx, hb, hml, hown, hts⟩
  have hL0 := hts (.methodLink RX5 3 objectInit) (by decide +kernel)
  have hL1 := hts (.instanceMethod objectInit) (by decide +kernel)
  have hL2 := hts (.code objectInit ⟨#[0xb1]⟩ 1 none) (by decide +kernel)
  have hL3 := hts (.classLink RX5 9 RX7) (by decide +kernel)
  have hL4 := hts (.instantiable RX7 1) (by decide +kernel)
  have hL5 := hts (.initialized RX7) (by decide +kernel)
  have hL6 := hts (.methodLink RX5 13 yX7_init) (by decide +kernel)
  have hL7 := hts (.instanceMethod yX7_init) (by decide +kernel)
  have hL8 := hts (.fieldLink RX5 16 "SkyLights$Places" "cells" "LSkyLights$Row;") (by decide +kernel)
  have hL9 := hts (.fieldLink RX5 20 "SkyLights$Places" "size" "I") (by decide +kernel)
  have hI5 : ∀ w ∈ u_ws RX5 TX5 2, w ∈ wsX5_init := by decide +kernel
  have hI7 : ∀ w ∈ u_ws RX7 TX7 1, w ∈ wsX5_init := by decide +kernel
  have hS : va_S (sk_A G) s.heap s.heap [] := va_S.rf
  have hw := hU
  have hl := lv_entry ([.ref (sk_ad G a)]) (n := 1) (Nat.le_of_ble_eq_true rfl)
  rw [lg_entry_eq]
  generalize (lg_sl ([.ref (sk_ad G a)]) ++ List.replicate (1 - (lg_sl ([.ref (sk_ad G a)])).length) Slot.unset).toArray = ls at hl ⊢
  have hl : lv_has ls 1 [(0, .ref (sk_ad G a))] := hl
  refine lv_aload_n hx hb (okX5_init (0, .aload_n 0, 1) (List.mem_of_getElem? (i := 0) rfl)) rfl (lv_at hl 0 rfl) ?_
  refine W.objInit hx hb hown hL0 hL1 hL2 rfl (by rw [hml]; exact hl.1) rfl (okX5_init (1, .invokespecial 3, 3) (List.mem_of_getElem? (i := 1) rfl)) (Nat.le_of_ble_eq_true rfl) (Nat.le_of_ble_eq_true rfl) ?_
  refine W.eq (g2 := F0 m 4 ls []) rfl ?_
  refine lv_aload_n hx hb (okX5_init (4, .aload_n 0, 1) (List.mem_of_getElem? (i := 2) rfl)) rfl (lv_at hl 0 rfl) ?_
  refine sk_new (n := n) (ci := 7) S hK hw hS (fun x q h => hB x q (by omega)) (C := RX7) (T := TX7) (N := 1) rfl hI7 tyX7 tyX7_ok ⟨by rw [hn]; exact k5 hk, rfl, by decide⟩ (by decide) hL3 hL4 hL5 ⟨Nat.le_of_ble_eq_true rfl, Nat.le_of_ble_eq_true rfl⟩ (okX5_init (5, .new 9, 3) (List.mem_of_getElem? (i := 3) rfl)) (fun H hw hS => ?_)
  refine lv_dup hx hb (okX5_init (8, .dup, 1) (List.mem_of_getElem? (i := 4) rfl)) rfl ?_
  refine lv_bipush (v := iI 40) hx hb (okX5_init (9, .bipush 40, 2) (List.mem_of_getElem? (i := 5) rfl)) (by decide +kernel) ?_
  refine cU_cv (va_runI (As := [.int (iI 40)]) (rest := [.ref (sk_ad G ((n : Nat) : Int)), .ref (sk_ad G a)]) S (c_Row_init l G (a := ((n : Nat) : Int)) (n := n + 1) (by rw [hn]; exact k5 hk) (by omega) (fun x q h => hB x q (by omega)) 40 (by rw [hn, show a + 1 + 1 = a + 2 by omega]; exact ln5 hk) (by decide) 40 rfl (by decide)) (cwI 1 hts gX5_init_X7_init rfl rfl rfl hL5 hL6 hL7 rfl (by decide +kernel) ⟨Nat.le_of_ble_eq_true rfl, Nat.le_of_ble_eq_true rfl⟩) ⟨cU_blind, cU_pre hK hw⟩ rfl rfl hl.1 rfl (lv_room (Nat.le_of_ble_eq_true rfl)) (okX5_init (11, .invokespecial 13, 3) (List.mem_of_getElem? (i := 6) rfl)) ⟨Nat.le_of_ble_eq_true rfl, Nat.le_of_ble_eq_true rfl⟩) hS (fun H locs hw hS => ?_)
  refine sk_putr (b := ((n : Nat) : Int)) S hK hw hS hk (by omega) (T := TX5) (N := 2) rfl hI5 tyX5 tyX5_ok nmX5 0 ⟨by decide, rfl, by decide, rfl, rfl⟩ rfl rfl hin (k' := 0) rfl (by rw [rf5 hk]; omega) (fun _ => ⟨rfl, rfl⟩) hL8 (okX5_init (14, .putfield 16, 3) (List.mem_of_getElem? (i := 7) rfl)) (fun H locs hw hS => ?_)
  refine lv_aload_n hx hb (okX5_init (17, .aload_n 0, 1) (List.mem_of_getElem? (i := 8) rfl)) rfl (lv_at hl 0 rfl) ?_
  refine lv_iconst (v := iI 0) hx hb (okX5_init (18, .iconst 0, 1) (List.mem_of_getElem? (i := 9) rfl)) rfl ?_
  refine sk_put S hK ⟨hw, hS⟩ hk (by omega) (C := RX5) (T := TX5) (N := 2) rfl hI5 tyX5 tyX5_ok nmX5 1 ⟨by decide, rfl, by decide, rfl⟩ rfl rfl (k' := 1) rfl (by decide) ⟨rfl, rfl⟩ hL9 (okX5_init (19, .putfield 20, 3) (List.mem_of_getElem? (i := 10) rfl)) (fun H locs hwp => ?_)
  have hS := hwp.2
  have hw := cw.put hwp.1 (by unfold I0; rw [hk]; rfl) (fun j hj i hi => by unfold isrs; rw [hi, hk]; rw [show j = 1 by omega]; rfl)
  have hfin : cw G (n + 2) (bx B a ((n + 2 : Nat) : Int)) H := by
    have hother : ∀ i : Nat, (i : Int) < ((n + 2 : Nat) : Int) → (i : Int) ≠ a → ∀ q : Int, (i : Int) ≠ ((n + 1 : Nat) : Int) → (uB (uB (bx (B) ((n : Nat) : Int) (((n : Nat) : Int) + 1)) a 0) a 1) i q = bx B a ((n + 2 : Nat) : Int) i q := by
      intro i hi e q e0 
      by_cases e9 : (i : Int) < a
      · exact ((uB_o (by omega)).trans ((uB_o (by omega)).trans ((bx_o (by omega)).trans (rfl)))).trans (bx_o (by omega)).symm
      · rcases (by omega : (((n : Nat) : Int) ≤ (i : Int) ∧ (i : Int) < ((n : Nat) : Int) + 1)) with h
        · exact (uB_m (uB_m (bx_h (by omega)))).trans (bx_h (by omega)).symm
    refine hw.cong (fun i hi q hq => ?_) (fun i hi q => ?_)
    · by_cases e : (i : Int) = a
      · unfold isrs at hq; rw [e, hk] at hq
        rw [e]
        rcases isr_5 q hq with h
        · subst h; exact (uB_m (uB_h rfl rfl)).trans (bx_h (by omega)).symm
      · by_cases e0 : (i : Int) = ((n + 1 : Nat) : Int)
        · unfold isrs at hq; rw [e0, show ((n + 1 : Nat) : Int) = a + 1 + 1 by omega, k7 (k5 hk)] at hq; simp at hq
        · exact hother i (by omega) e q e0
    · by_cases e : (i : Int) = a
      · right; unfold I0; rw [e, hk]; try rfl
      · by_cases e0 : (i : Int) = ((n + 1 : Nat) : Int)
        · right; rw [e0, show ((n + 1 : Nat) : Int) = a + 2 by omega]; exact I0_arr (by omega) q
        · left; exact hother i (by omega) e q e0
  refine W.widen (k := 2) (n := 41) (by decide) (by decide) ?_
  exact cU_ret hx hb hr0 hlocks hK hfin hS (okX5_init (22, .return_, 1) (List.mem_of_getElem? (i := 11) rfl))
set_option maxHeartbeats 4000000 in
set_option maxRecDepth 100000 in
theorem c_Pass_init (l : Launch) (G : sk_G) {a : Int} {n : Nat} {B : Int → Int → Bool} (hk : kd a = 4) (hn : (n : Int) = a + 1) (hB : ∀ x k, (n : Int) ≤ x → B x k = false) : Met l yX4_init wsX4_init ({ frames := 2, cells := 2, slots := 81, locals := 33 }) (va_Pc [.ref (sk_ad G a)] (cU G (n) B)) (cQ G (n + 2) (bx B a ((n + 2 : Nat) : Int))) 2 81 (sk_A G) := by
  have ha := kd_in hk
  refine Met.ofW (cc := cX4_init) (maxL := 1) (ret := none) (by decide) rfl ?_
  intro p e s m args below meth c s₁ B9 hml hv
  obtain ⟨rfl, hU, hK⟩ := hv
  have hx := B9.exec
  have hb := B9.bytes
  have hr0 := B9.returns
  have hts := atoms_spec (ws := wsX4_init) B9.pre
  have hown : s.vm.findClass RX4 = some m.cls := findClass_of_methodNamed B9.named
  have hlocks := B9.notSynchronized
  have hin : meth.name = "<init>" := (name_of_methodNamed B9.named B9.method).1
  have S : CallFix p m c cX4_init 1 s ([.ref (sk_ad G a)].toArray) wsX4_init RX4 := ⟨hx, hb, hml, hown, hts⟩
  have hL0 := hts (.methodLink RX4 3 objectInit) (by decide +kernel)
  have hL1 := hts (.instanceMethod objectInit) (by decide +kernel)
  have hL2 := hts (.code objectInit ⟨#[0xb1]⟩ 1 none) (by decide +kernel)
  have hL3 := hts (.classLink RX4 9 RX7) (by decide +kernel)
  have hL4 := hts (.instantiable RX7 1) (by decide +kernel)
  have hL5 := hts (.initialized RX7) (by decide +kernel)
  have hL6 := hts (.methodLink RX4 13 yX7_init) (by decide +kernel)
  have hL7 := hts (.instanceMethod yX7_init) (by decide +kernel)
  have hL8 := hts (.fieldLink RX4 16 "SkyLights$Pass" "cells" "LSkyLights$Row;") (by decide +kernel)
  have hL9 := hts (.fieldLink RX4 20 "SkyLights$Pass" "size" "I") (by decide +kernel)
  have hL10 := hts (.fieldLink RX4 24 "SkyLights$Pass" "ticks" "I") (by decide +kernel)
  have hI4 : ∀ w ∈ u_ws RX4 TX4 3, w ∈ wsX4_init := by decide +kernel
  have hI7 : ∀ w ∈ u_ws RX7 TX7 1, w ∈ wsX4_init := by decide +kernel
  have hS : va_S (sk_A G) s.heap s.heap [] := va_S.rf
  have hw := hU
  have hl := lv_entry ([.ref (sk_ad G a)]) (n := 1) (Nat.le_of_ble_eq_true rfl)
  rw [lg_entry_eq]
  generalize (lg_sl ([.ref (sk_ad G a)]) ++ List.replicate (1 - (lg_sl ([.ref (sk_ad G a)])).length) Slot.unset).toArray = ls at hl ⊢
  have hl : lv_has ls 1 [(0, .ref (sk_ad G a))] := hl
  refine lv_aload_n hx hb (okX4_init (0, .aload_n 0, 1) (List.mem_of_getElem? (i := 0) rfl)) rfl (lv_at hl 0 rfl) ?_
  refine W.objInit hx hb hown hL0 hL1 hL2 rfl (by rw [hml]; exact hl.1) rfl (okX4_init (1, .invokespecial 3, 3) (List.mem_of_getElem? (i := 1) rfl)) (Nat.le_of_ble_eq_true rfl) (Nat.le_of_ble_eq_true rfl) ?_
  refine W.eq (g2 := F0 m 4 ls []) rfl ?_
  refine lv_aload_n hx hb (okX4_init (4, .aload_n 0, 1) (List.mem_of_getElem? (i := 2) rfl)) rfl (lv_at hl 0 rfl) ?_
  refine sk_new (n := n) (ci := 7) S hK hw hS (fun x q h => hB x q (by omega)) (C := RX7) (T := TX7) (N := 1) rfl hI7 tyX7 tyX7_ok ⟨by rw [hn]; exact k4 hk, rfl, by decide⟩ (by decide) hL3 hL4 hL5 ⟨Nat.le_of_ble_eq_true rfl, Nat.le_of_ble_eq_true rfl⟩ (okX4_init (5, .new 9, 3) (List.mem_of_getElem? (i := 3) rfl)) (fun H hw hS => ?_)
  refine lv_dup hx hb (okX4_init (8, .dup, 1) (List.mem_of_getElem? (i := 4) rfl)) rfl ?_
  refine lv_bipush (v := iI 80) hx hb (okX4_init (9, .bipush 80, 2) (List.mem_of_getElem? (i := 5) rfl)) (by decide +kernel) ?_
  refine cU_cv (va_runI (As := [.int (iI 80)]) (rest := [.ref (sk_ad G ((n : Nat) : Int)), .ref (sk_ad G a)]) S (c_Row_init l G (a := ((n : Nat) : Int)) (n := n + 1) (by rw [hn]; exact k4 hk) (by omega) (fun x q h => hB x q (by omega)) 80 (by rw [hn, show a + 1 + 1 = a + 2 by omega]; exact ln4 hk) (by decide) 80 rfl (by decide)) (cwI 1 hts gX4_init_X7_init rfl rfl rfl hL5 hL6 hL7 rfl (by decide +kernel) ⟨Nat.le_of_ble_eq_true rfl, Nat.le_of_ble_eq_true rfl⟩) ⟨cU_blind, cU_pre hK hw⟩ rfl rfl hl.1 rfl (lv_room (Nat.le_of_ble_eq_true rfl)) (okX4_init (11, .invokespecial 13, 3) (List.mem_of_getElem? (i := 6) rfl)) ⟨Nat.le_of_ble_eq_true rfl, Nat.le_of_ble_eq_true rfl⟩) hS (fun H locs hw hS => ?_)
  refine sk_putr (b := ((n : Nat) : Int)) S hK hw hS hk (by omega) (T := TX4) (N := 3) rfl hI4 tyX4 tyX4_ok nmX4 0 ⟨by decide, rfl, by decide, rfl, rfl⟩ rfl rfl hin (k' := 0) rfl (by rw [rf4 hk]; omega) (fun _ => ⟨rfl, rfl⟩) hL8 (okX4_init (14, .putfield 16, 3) (List.mem_of_getElem? (i := 7) rfl)) (fun H locs hw hS => ?_)
  refine lv_aload_n hx hb (okX4_init (17, .aload_n 0, 1) (List.mem_of_getElem? (i := 8) rfl)) rfl (lv_at hl 0 rfl) ?_
  refine lv_iconst (v := iI 0) hx hb (okX4_init (18, .iconst 0, 1) (List.mem_of_getElem? (i := 9) rfl)) rfl ?_
  refine sk_put S hK ⟨hw, hS⟩ hk (by omega) (C := RX4) (T := TX4) (N := 3) rfl hI4 tyX4 tyX4_ok nmX4 1 ⟨by decide, rfl, by decide, rfl⟩ rfl rfl (k' := 1) rfl (by decide) ⟨rfl, rfl⟩ hL9 (okX4_init (19, .putfield 20, 3) (List.mem_of_getElem? (i := 10) rfl)) (fun H locs hwp => ?_)
  have hS := hwp.2
  have hw := cw.put hwp.1 (by unfold I0; rw [hk]; rfl) (fun j hj i hi => by unfold isrs; rw [hi, hk]; rw [show j = 1 by omega]; rfl)
  refine lv_aload_n hx hb (okX4_init (22, .aload_n 0, 1) (List.mem_of_getElem? (i := 11) rfl)) rfl (lv_at hl 0 rfl) ?_
  refine lv_iconst (v := iI 1) hx hb (okX4_init (23, .iconst 1, 1) (List.mem_of_getElem? (i := 12) rfl)) rfl ?_
  refine sk_put S hK ⟨hw, hS⟩ hk (by omega) (C := RX4) (T := TX4) (N := 3) rfl hI4 tyX4 tyX4_ok nmX4 2 ⟨by decide, rfl, by decide, rfl⟩ rfl rfl (k' := 2) rfl (by decide) ⟨rfl, rfl⟩ hL10 (okX4_init (24, .putfield 24, 3) (List.mem_of_getElem? (i := 13) rfl)) (fun H locs hwp => ?_)
  have hS := hwp.2
  have hw := cw.put hwp.1 (by unfold I0; rw [hk]; rfl) (fun j hj i hi => by unfold isrs; rw [hi, hk]; rw [show j = 2 by omega]; rfl)
  have hfin : cw G (n + 2) (bx B a ((n + 2 : Nat) : Int)) H := by
    have hother : ∀ i : Nat, (i : Int) < ((n + 2 : Nat) : Int) → (i : Int) ≠ a → ∀ q : Int, (i : Int) ≠ ((n + 1 : Nat) : Int) → (uB (uB (uB (bx (B) ((n : Nat) : Int) (((n : Nat) : Int) + 1)) a 0) a 1) a 2) i q = bx B a ((n + 2 : Nat) : Int) i q := by
      intro i hi e q e0 
      by_cases e9 : (i : Int) < a
      · exact ((uB_o (by omega)).trans ((uB_o (by omega)).trans ((uB_o (by omega)).trans ((bx_o (by omega)).trans (rfl))))).trans (bx_o (by omega)).symm
      · rcases (by omega : (((n : Nat) : Int) ≤ (i : Int) ∧ (i : Int) < ((n : Nat) : Int) + 1)) with h
        · exact (uB_m (uB_m (uB_m (bx_h (by omega))))).trans (bx_h (by omega)).symm
    refine hw.cong (fun i hi q hq => ?_) (fun i hi q => ?_)
    · by_cases e : (i : Int) = a
      · unfold isrs at hq; rw [e, hk] at hq
        rw [e]
        rcases isr_4 q hq with h
        · subst h; exact (uB_m (uB_m (uB_h rfl rfl))).trans (bx_h (by omega)).symm
      · by_cases e0 : (i : Int) = ((n + 1 : Nat) : Int)
        · unfold isrs at hq; rw [e0, show ((n + 1 : Nat) : Int) = a + 1 + 1 by omega, k7 (k4 hk)] at hq; simp at hq
        · exact hother i (by omega) e q e0
    · by_cases e : (i : Int) = a
      · by_cases e2 : q = 2
        · left; rw [e, e2]; exact (uB_h rfl rfl).trans (bx_h (by omega)).symm
        · right; unfold I0; rw [e, hk]; simp only []; (repeat' rw [if_neg (by omega)])
      · by_cases e0 : (i : Int) = ((n + 1 : Nat) : Int)
        · right; rw [e0, show ((n + 1 : Nat) : Int) = a + 2 by omega]; exact I0_arr (by omega) q
        · left; exact hother i (by omega) e q e0
  refine W.widen (k := 2) (n := 81) (by decide) (by decide) ?_
  exact cU_ret hx hb hr0 hlocks hK hfin hS (okX4_init (27, .return_, 1) (List.mem_of_getElem? (i := 14) rfl))
set_option maxHeartbeats 4000000 in
set_option maxRecDepth 100000 in
theorem c_Scene_init (l : Launch) (G : sk_G) {a : Int} {n : Nat} {B : Int → Int → Bool} (hk : kd a = 8) (hn : (n : Int) = a + 1) (hB : ∀ x k, (n : Int) ≤ x → B x k = false) : Met l yX8_init wsX8_init ({ frames := 3, cells := 6, slots := 168, locals := 53 }) (va_Pc [.ref (sk_ad G a)] (cU G (n) B)) (cQ G (n + 6) (bx B a ((n + 6 : Nat) : Int))) 6 168 (sk_A G) := by
  have ha := kd_in hk
  refine Met.ofW (cc := cX8_init) (maxL := 1) (ret := none) (by decide) rfl ?_
  intro p e s m args below meth c s₁ B9 hml hv
  obtain ⟨rfl, hU, hK⟩ := hv
  have hx := B9.exec
  have hb := B9.bytes
  have hr0 := B9.returns
  have hts := atoms_spec (ws := wsX8_init) B9.pre
  have hown : s.vm.findClass RX8 = some m.cls := findClass_of_methodNamed B9.named
  have hlocks := B9.notSynchronized
  have hin : meth.name = "<init>" := (name_of_methodNamed B9.named B9.method).1
  have S : CallFix p m c cX8_init 1 s ([.ref (sk_ad G a)].toArray) wsX8_init RX8 := ⟨hx, hb, hml, hown, hts⟩
  have hL0 := hts (.methodLink RX8 1 objectInit) (by decide +kernel)
  have hL1 := hts (.instanceMethod objectInit) (by decide +kernel)
  have hL2 := hts (.code objectInit ⟨#[0xb1]⟩ 1 none) (by decide +kernel)
  have hL3 := hts (.classLink RX8 7 RX4) (by decide +kernel)
  have hL4 := hts (.instantiable RX4 3) (by decide +kernel)
  have hL5 := hts (.initialized RX4) (by decide +kernel)
  have hL6 := hts (.instanceMethod yX4_init) (by decide +kernel)
  have hL7 := hts (.fieldLink RX8 10 "SkyLights$Scene" "way" "LSkyLights$Pass;") (by decide +kernel)
  have hL8 := hts (.fieldLink RX8 16 "SkyLights$Scene" "home" "LSkyLights$Pass;") (by decide +kernel)
  have hL9 := hts (.fieldLink RX8 19 "SkyLights$Scene" "figure" "I") (by decide +kernel)
  have hL10 := hts (.fieldLink RX8 23 "SkyLights$Scene" "hold" "I") (by decide +kernel)
  have hL11 := hts (.fieldLink RX8 26 "SkyLights$Scene" "cue" "I") (by decide +kernel)
  have hI4 : ∀ w ∈ u_ws RX4 TX4 3, w ∈ wsX8_init := by decide +kernel
  have hI8 : ∀ w ∈ u_ws RX8 TX8 5, w ∈ wsX8_init := by decide +kernel
  have hS : va_S (sk_A G) s.heap s.heap [] := va_S.rf
  have hw := hU
  have hl := lv_entry ([.ref (sk_ad G a)]) (n := 1) (Nat.le_of_ble_eq_true rfl)
  rw [lg_entry_eq]
  generalize (lg_sl ([.ref (sk_ad G a)]) ++ List.replicate (1 - (lg_sl ([.ref (sk_ad G a)])).length) Slot.unset).toArray = ls at hl ⊢
  have hl : lv_has ls 1 [(0, .ref (sk_ad G a))] := hl
  refine lv_aload_n hx hb (okX8_init (0, .aload_n 0, 1) (List.mem_of_getElem? (i := 0) rfl)) rfl (lv_at hl 0 rfl) ?_
  refine W.objInit hx hb hown hL0 hL1 hL2 rfl (by rw [hml]; exact hl.1) rfl (okX8_init (1, .invokespecial 1, 3) (List.mem_of_getElem? (i := 1) rfl)) (Nat.le_of_ble_eq_true rfl) (Nat.le_of_ble_eq_true rfl) ?_
  refine W.eq (g2 := F0 m 4 ls []) rfl ?_
  refine lv_aload_n hx hb (okX8_init (4, .aload_n 0, 1) (List.mem_of_getElem? (i := 2) rfl)) rfl (lv_at hl 0 rfl) ?_
  refine sk_new (n := n) (ci := 4) S hK hw hS (fun x q h => hB x q (by omega)) (C := RX4) (T := TX4) (N := 3) rfl hI4 tyX4 tyX4_ok ⟨by rw [show ((n : Nat) : Int) = a + 1 by omega]; exact (k8 hk).1, rfl, by decide⟩ (by decide) hL3 hL4 hL5 ⟨Nat.le_of_ble_eq_true rfl, Nat.le_of_ble_eq_true rfl⟩ (okX8_init (5, .new 7, 3) (List.mem_of_getElem? (i := 3) rfl)) (fun H hw hS => ?_)
  refine lv_dup hx hb (okX8_init (8, .dup, 1) (List.mem_of_getElem? (i := 4) rfl)) rfl ?_
  refine cU_cv (va_runIN (As := []) (rest := [.ref (sk_ad G ((n : Nat) : Int)), .ref (sk_ad G a)]) S (c_Pass_init l G (a := ((n : Nat) : Int)) (n := n + 1) (by rw [show ((n : Nat) : Int) = a + 1 by omega]; exact (k8 hk).1) (by omega) (fun x q h => hB x q (by omega))) ⟨va_cnB 0 hts gX8_init_X4_init_n9 rfl rfl rfl (hK.2.2.1 ("SkyLights$Scene", 9, yX4_init) (by decide +kernel)) hL5 (by decide +kernel) ⟨Nat.le_of_ble_eq_true rfl, Nat.le_of_ble_eq_true rfl⟩, rfl, hL6⟩ ⟨cU_blind, cU_pre hK hw⟩ rfl rfl hl.1 rfl (lv_room (Nat.le_of_ble_eq_true rfl)) (okX8_init (9, .invokespecial 9, 3) (List.mem_of_getElem? (i := 5) rfl)) ⟨Nat.le_of_ble_eq_true rfl, Nat.le_of_ble_eq_true rfl⟩) hS (fun H locs hw hS => ?_)
  refine sk_putr (b := ((n : Nat) : Int)) S hK hw hS hk (by omega) (T := TX8) (N := 5) rfl hI8 tyX8 tyX8_ok nmX8 0 ⟨by decide, rfl, by decide, rfl, rfl⟩ rfl rfl hin (k' := 0) rfl (by rw [rf80 hk]; omega) (fun _ => ⟨rfl, rfl⟩) hL7 (okX8_init (12, .putfield 10, 3) (List.mem_of_getElem? (i := 6) rfl)) (fun H locs hw hS => ?_)
  refine lv_aload_n hx hb (okX8_init (15, .aload_n 0, 1) (List.mem_of_getElem? (i := 7) rfl)) rfl (lv_at hl 0 rfl) ?_
  refine sk_new (n := n + 3) (ci := 4) S hK hw hS (fun x q h => (uB_o (by omega)).trans ((bx_o (by omega)).trans (hB x q (by omega)))) (C := RX4) (T := TX4) (N := 3) rfl hI4 tyX4 tyX4_ok ⟨by rw [show ((n + 3 : Nat) : Int) = a + 4 by omega]; exact (k8 hk).2, rfl, by decide⟩ (by decide) hL3 hL4 hL5 ⟨Nat.le_of_ble_eq_true rfl, Nat.le_of_ble_eq_true rfl⟩ (okX8_init (16, .new 7, 3) (List.mem_of_getElem? (i := 8) rfl)) (fun H hw hS => ?_)
  refine lv_dup hx hb (okX8_init (19, .dup, 1) (List.mem_of_getElem? (i := 9) rfl)) rfl ?_
  refine cU_cv (va_runIN (As := []) (rest := [.ref (sk_ad G ((n + 3 : Nat) : Int)), .ref (sk_ad G a)]) S (c_Pass_init l G (a := ((n + 3 : Nat) : Int)) (n := n + 4) (by rw [show ((n + 3 : Nat) : Int) = a + 4 by omega]; exact (k8 hk).2) (by omega) (fun x q h => (uB_o (by omega)).trans ((bx_o (by omega)).trans (hB x q (by omega))))) ⟨va_cnB 0 hts gX8_init_X4_init_n9 rfl rfl rfl (hK.2.2.1 ("SkyLights$Scene", 9, yX4_init) (by decide +kernel)) hL5 (by decide +kernel) ⟨Nat.le_of_ble_eq_true rfl, Nat.le_of_ble_eq_true rfl⟩, rfl, hL6⟩ ⟨cU_blind, cU_pre hK hw⟩ rfl rfl hl.1 rfl (lv_room (Nat.le_of_ble_eq_true rfl)) (okX8_init (20, .invokespecial 9, 3) (List.mem_of_getElem? (i := 10) rfl)) ⟨Nat.le_of_ble_eq_true rfl, Nat.le_of_ble_eq_true rfl⟩) hS (fun H locs hw hS => ?_)
  refine sk_putr (b := ((n + 3 : Nat) : Int)) S hK hw hS hk (by omega) (T := TX8) (N := 5) rfl hI8 tyX8 tyX8_ok nmX8 1 ⟨by decide, rfl, by decide, rfl, rfl⟩ rfl rfl hin (k' := 1) rfl (by rw [rf81 hk]; omega) (fun _ => ⟨rfl, rfl⟩) hL8 (okX8_init (23, .putfield 16, 3) (List.mem_of_getElem? (i := 11) rfl)) (fun H locs hw hS => ?_)
  refine lv_aload_n hx hb (okX8_init (26, .aload_n 0, 1) (List.mem_of_getElem? (i := 12) rfl)) rfl (lv_at hl 0 rfl) ?_
  refine lv_iconst (v := iI 0) hx hb (okX8_init (27, .iconst 0, 1) (List.mem_of_getElem? (i := 13) rfl)) rfl ?_
  refine sk_put S hK ⟨hw, hS⟩ hk (by omega) (C := RX8) (T := TX8) (N := 5) rfl hI8 tyX8 tyX8_ok nmX8 2 ⟨by decide, rfl, by decide, rfl⟩ rfl rfl (k' := 2) rfl (by decide) ⟨rfl, rfl⟩ hL9 (okX8_init (28, .putfield 19, 3) (List.mem_of_getElem? (i := 14) rfl)) (fun H locs hwp => ?_)
  have hS := hwp.2
  have hw := cw.put hwp.1 (by unfold I0; rw [hk]; rfl) (fun j hj i hi => by unfold isrs; rw [hi, hk]; rw [show j = 2 by omega]; rfl)
  refine lv_aload_n hx hb (okX8_init (31, .aload_n 0, 1) (List.mem_of_getElem? (i := 15) rfl)) rfl (lv_at hl 0 rfl) ?_
  refine lv_iconst (v := iI 0) hx hb (okX8_init (32, .iconst 0, 1) (List.mem_of_getElem? (i := 16) rfl)) rfl ?_
  refine sk_put S hK ⟨hw, hS⟩ hk (by omega) (C := RX8) (T := TX8) (N := 5) rfl hI8 tyX8 tyX8_ok nmX8 3 ⟨by decide, rfl, by decide, rfl⟩ rfl rfl (k' := 3) rfl (by decide) ⟨rfl, rfl⟩ hL10 (okX8_init (33, .putfield 23, 3) (List.mem_of_getElem? (i := 17) rfl)) (fun H locs hwp => ?_)
  have hS := hwp.2
  have hw := cw.put hwp.1 (by unfold I0; rw [hk]; rfl) (fun j hj i hi => by unfold isrs; rw [hi, hk]; rw [show j = 3 by omega]; rfl)
  refine lv_aload_n hx hb (okX8_init (36, .aload_n 0, 1) (List.mem_of_getElem? (i := 18) rfl)) rfl (lv_at hl 0 rfl) ?_
  refine lv_iconst (v := iI 0) hx hb (okX8_init (37, .iconst 0, 1) (List.mem_of_getElem? (i := 19) rfl)) rfl ?_
  refine sk_put S hK ⟨hw, hS⟩ hk (by omega) (C := RX8) (T := TX8) (N := 5) rfl hI8 tyX8 tyX8_ok nmX8 4 ⟨by decide, rfl, by decide, rfl⟩ rfl rfl (k' := 4) rfl (by decide) ⟨rfl, rfl⟩ hL11 (okX8_init (38, .putfield 26, 3) (List.mem_of_getElem? (i := 20) rfl)) (fun H locs hwp => ?_)
  have hS := hwp.2
  have hw := cw.put hwp.1 (by unfold I0; rw [hk]; rfl) (fun j hj i hi => by unfold isrs; rw [hi, hk]; rw [show j = 4 by omega]; rfl)
  have hfin : cw G (n + 6) (bx B a ((n + 6 : Nat) : Int)) H := by
    have hother : ∀ i : Nat, (i : Int) < ((n + 6 : Nat) : Int) → (i : Int) ≠ a → ∀ q : Int, (uB (uB (uB (uB (bx (uB (bx (B) ((n : Nat) : Int) ((n + 3 : Nat) : Int)) a 0) ((n + 3 : Nat) : Int) ((n + 6 : Nat) : Int)) a 1) a 2) a 3) a 4) i q = bx B a ((n + 6 : Nat) : Int) i q := by
      intro i hi e q 
      by_cases e9 : (i : Int) < a
      · exact ((uB_o (by omega)).trans ((uB_o (by omega)).trans ((uB_o (by omega)).trans ((uB_o (by omega)).trans ((bx_o (by omega)).trans ((uB_o (by omega)).trans ((bx_o (by omega)).trans (rfl)))))))).trans (bx_o (by omega)).symm
      · rcases (by omega : (((n : Nat) : Int) ≤ (i : Int) ∧ (i : Int) < ((n + 3 : Nat) : Int)) ∨ (((n + 3 : Nat) : Int) ≤ (i : Int) ∧ (i : Int) < ((n + 6 : Nat) : Int))) with h | h
        · exact (uB_m (uB_m (uB_m (uB_m (bx_m (uB_m (bx_h (by omega)))))))).trans (bx_h (by omega)).symm
        · exact (uB_m (uB_m (uB_m (uB_m (bx_h (by omega)))))).trans (bx_h (by omega)).symm
    refine hw.cong (fun i hi q hq => ?_) (fun i hi q => ?_)
    · by_cases e : (i : Int) = a
      · unfold isrs at hq; rw [e, hk] at hq
        rw [e]
        rcases isr_8 q hq with h | h
        · subst h; exact (uB_m (uB_m (uB_m (uB_m (bx_m (uB_h rfl rfl)))))).trans (bx_h (by omega)).symm
        · subst h; exact (uB_m (uB_m (uB_m (uB_h rfl rfl)))).trans (bx_h (by omega)).symm
      · exact hother i (by omega) e q
    · by_cases e : (i : Int) = a
      · right; unfold I0; rw [e, hk]; try rfl
      · left; exact hother i (by omega) e q
  refine W.widen (k := 6) (n := 168) (by decide) (by decide) ?_
  exact cU_ret hx hb hr0 hlocks hK hfin hS (okX8_init (41, .return_, 1) (List.mem_of_getElem? (i := 21) rfl))
set_option maxHeartbeats 4000000 in
set_option maxRecDepth 100000 in
theorem c_Air_init (l : Launch) (G : sk_G) {B : Int → Int → Bool} (hB : ∀ x k, ((37 : Nat) : Int) ≤ x → B x k = false) : Met l yX0_init wsX0_init ({ frames := 1, cells := 0, slots := 0, locals := 12 }) (va_Pc [.ref (sk_ad G 36)] (cU G (37) B)) (cQ G (37) (bx B 36 37)) 0 0 (sk_A G) := by
  refine Met.ofW (cc := cX0_init) (maxL := 1) (ret := none) (by decide) rfl ?_
  intro p e s m args below meth c s₁ B9 hml hv
  obtain ⟨rfl, hU, hK⟩ := hv
  have hx := B9.exec
  have hb := B9.bytes
  have hr0 := B9.returns
  have hts := atoms_spec (ws := wsX0_init) B9.pre
  have hown : s.vm.findClass RX0 = some m.cls := findClass_of_methodNamed B9.named
  have hlocks := B9.notSynchronized
  have hin : meth.name = "<init>" := (name_of_methodNamed B9.named B9.method).1
  have S : CallFix p m c cX0_init 1 s ([.ref (sk_ad G 36)].toArray) wsX0_init RX0 := ⟨hx, hb, hml, hown, hts⟩
  have hL0 := hts (.methodLink RX0 1 objectInit) (by decide +kernel)
  have hL1 := hts (.instanceMethod objectInit) (by decide +kernel)
  have hL2 := hts (.code objectInit ⟨#[0xb1]⟩ 1 none) (by decide +kernel)
  have hL3 := hts (.fieldLink RX0 7 "SkyLights$Air" "gap" "I") (by decide +kernel)
  have hL4 := hts (.fieldLink RX0 13 "SkyLights$Air" "zoneX" "I") (by decide +kernel)
  have hL5 := hts (.fieldLink RX0 16 "SkyLights$Air" "zoneY" "I") (by decide +kernel)
  have hL6 := hts (.fieldLink RX0 19 "SkyLights$Air" "radius" "I") (by decide +kernel)
  have hI0 : ∀ w ∈ u_ws RX0 TX0 4, w ∈ wsX0_init := by decide +kernel
  have hS : va_S (sk_A G) s.heap s.heap [] := va_S.rf
  have hw := hU
  have hl := lv_entry ([.ref (sk_ad G 36)]) (n := 1) (Nat.le_of_ble_eq_true rfl)
  rw [lg_entry_eq]
  generalize (lg_sl ([.ref (sk_ad G 36)]) ++ List.replicate (1 - (lg_sl ([.ref (sk_ad G 36)])).length) Slot.unset).toArray = ls at hl ⊢
  have hl : lv_has ls 1 [(0, .ref (sk_ad G 36))] := hl
  refine lv_aload_n hx hb (okX0_init (0, .aload_n 0, 1) (List.mem_of_getElem? (i := 0) rfl)) rfl (lv_at hl 0 rfl) ?_
  refine W.objInit hx hb hown hL0 hL1 hL2 rfl (by rw [hml]; exact hl.1) rfl (okX0_init (1, .invokespecial 1, 3) (List.mem_of_getElem? (i := 1) rfl)) (Nat.le_of_ble_eq_true rfl) (Nat.le_of_ble_eq_true rfl) ?_
  refine W.eq (g2 := F0 m 4 ls []) rfl ?_
  refine lv_aload_n hx hb (okX0_init (4, .aload_n 0, 1) (List.mem_of_getElem? (i := 2) rfl)) rfl (lv_at hl 0 rfl) ?_
  refine lv_bipush (v := iI 10) hx hb (okX0_init (5, .bipush 10, 2) (List.mem_of_getElem? (i := 3) rfl)) (by decide +kernel) ?_
  refine sk_put S hK ⟨hw, hS⟩ kdn_36 (by omega) (C := RX0) (T := TX0) (N := 4) rfl hI0 tyX0 tyX0_ok nmX0 0 ⟨by decide, rfl, by decide, rfl⟩ rfl rfl (k' := 0) rfl (by decide) ⟨rfl, rfl⟩ hL3 (okX0_init (7, .putfield 7, 3) (List.mem_of_getElem? (i := 4) rfl)) (fun H locs hwp => ?_)
  have hS := hwp.2
  have hw := cw.put hwp.1 (by decide +kernel) (fun j hj i hi => by unfold isrs; rw [hi, kdn_36]; rw [show j = 0 by omega]; rfl)
  refine lv_aload_n hx hb (okX0_init (10, .aload_n 0, 1) (List.mem_of_getElem? (i := 5) rfl)) rfl (lv_at hl 0 rfl) ?_
  refine lv_iconst (v := iI 0) hx hb (okX0_init (11, .iconst 0, 1) (List.mem_of_getElem? (i := 6) rfl)) rfl ?_
  refine sk_put S hK ⟨hw, hS⟩ kdn_36 (by omega) (C := RX0) (T := TX0) (N := 4) rfl hI0 tyX0 tyX0_ok nmX0 1 ⟨by decide, rfl, by decide, rfl⟩ rfl rfl (k' := 1) rfl (by decide) ⟨rfl, rfl⟩ hL4 (okX0_init (12, .putfield 13, 3) (List.mem_of_getElem? (i := 7) rfl)) (fun H locs hwp => ?_)
  have hS := hwp.2
  have hw := cw.put hwp.1 (by decide +kernel) (fun j hj i hi => by unfold isrs; rw [hi, kdn_36]; rw [show j = 1 by omega]; rfl)
  refine lv_aload_n hx hb (okX0_init (15, .aload_n 0, 1) (List.mem_of_getElem? (i := 8) rfl)) rfl (lv_at hl 0 rfl) ?_
  refine lv_iconst (v := iI 0) hx hb (okX0_init (16, .iconst 0, 1) (List.mem_of_getElem? (i := 9) rfl)) rfl ?_
  refine sk_put S hK ⟨hw, hS⟩ kdn_36 (by omega) (C := RX0) (T := TX0) (N := 4) rfl hI0 tyX0 tyX0_ok nmX0 2 ⟨by decide, rfl, by decide, rfl⟩ rfl rfl (k' := 2) rfl (by decide) ⟨rfl, rfl⟩ hL5 (okX0_init (17, .putfield 16, 3) (List.mem_of_getElem? (i := 10) rfl)) (fun H locs hwp => ?_)
  have hS := hwp.2
  have hw := cw.put hwp.1 (by decide +kernel) (fun j hj i hi => by unfold isrs; rw [hi, kdn_36]; rw [show j = 2 by omega]; rfl)
  refine lv_aload_n hx hb (okX0_init (20, .aload_n 0, 1) (List.mem_of_getElem? (i := 11) rfl)) rfl (lv_at hl 0 rfl) ?_
  refine lv_iconst (v := iI 0) hx hb (okX0_init (21, .iconst 0, 1) (List.mem_of_getElem? (i := 12) rfl)) rfl ?_
  refine sk_put S hK ⟨hw, hS⟩ kdn_36 (by omega) (C := RX0) (T := TX0) (N := 4) rfl hI0 tyX0 tyX0_ok nmX0 3 ⟨by decide, rfl, by decide, rfl⟩ rfl rfl (k' := 3) rfl (by decide) ⟨rfl, rfl⟩ hL6 (okX0_init (22, .putfield 19, 3) (List.mem_of_getElem? (i := 13) rfl)) (fun H locs hwp => ?_)
  have hS := hwp.2
  have hw := cw.put hwp.1 (by decide +kernel) (fun j hj i hi => by unfold isrs; rw [hi, kdn_36]; rw [show j = 3 by omega]; rfl)
  have hfin : cw G (37) (bx B 36 37) H := by
    have hother : ∀ i : Nat, (i : Int) < 37 → (i : Int) ≠ 36 → ∀ q : Int, (uB (uB (uB (uB (B) 36 0) 36 1) 36 2) 36 3) i q = bx B 36 37 i q := by
      intro i hi e q 
      by_cases e9 : (i : Int) < 36
      · exact ((uB_o (by omega)).trans ((uB_o (by omega)).trans ((uB_o (by omega)).trans ((uB_o (by omega)).trans (rfl))))).trans (bx_o (by omega)).symm
      · exact absurd e (by omega)
    refine hw.cong (fun i hi q hq => ?_) (fun i hi q => ?_)
    · by_cases e : (i : Int) = 36
      · unfold isrs at hq; rw [e, kdn_36] at hq
        exact (isr_0 q hq).elim
      · exact hother i (by omega) e q
    · by_cases e : (i : Int) = 36
      · by_cases e2 : q = 0
        · left; rw [e, e2]; exact (uB_m (uB_m (uB_m (uB_h rfl rfl)))).trans (bx_h (by omega)).symm
        · right; unfold I0; rw [e, kdn_36]; simp only []; (repeat' rw [if_neg (by omega)])
      · left; exact hother i (by omega) e q
  refine W.widen (k := 0) (n := 0) (by decide) (by decide) ?_
  exact cU_ret hx hb hr0 hlocks hK hfin hS (okX0_init (25, .return_, 1) (List.mem_of_getElem? (i := 14) rfl))
set_option maxHeartbeats 4000000 in
set_option maxRecDepth 100000 in
theorem c_Tape_init (l : Launch) (G : sk_G) {B : Int → Int → Bool} (hB : ∀ x k, ((2 : Nat) : Int) ≤ x → B x k = false) : Met l yX10_init wsX10_init ({ frames := 2, cells := 2, slots := 301, locals := 33 }) (va_Pc [.ref (sk_ad G 1)] (cU G (2) B)) (cQ G (4) (bx B 1 4)) 2 301 (sk_A G) := by
  refine Met.ofW (cc := cX10_init) (maxL := 1) (ret := none) (by decide) rfl ?_
  intro p e s m args below meth c s₁ B9 hml hv
  obtain ⟨rfl, hU, hK⟩ := hv
  have hx := B9.exec
  have hb := B9.bytes
  have hr0 := B9.returns
  have hts := atoms_spec (ws := wsX10_init) B9.pre
  have hown : s.vm.findClass RX10 = some m.cls := findClass_of_methodNamed B9.named
  have hlocks := B9.notSynchronized
  have hin : meth.name = "<init>" := (name_of_methodNamed B9.named B9.method).1
  have S : CallFix p m c cX10_init 1 s ([.ref (sk_ad G 1)].toArray) wsX10_init RX10 := ⟨hx, hb, hml, hown, hts⟩
  have hL0 := hts (.methodLink RX10 3 objectInit) (by decide +kernel)
  have hL1 := hts (.instanceMethod objectInit) (by decide +kernel)
  have hL2 := hts (.code objectInit ⟨#[0xb1]⟩ 1 none) (by decide +kernel)
  have hL3 := hts (.classLink RX10 9 RX7) (by decide +kernel)
  have hL4 := hts (.instantiable RX7 1) (by decide +kernel)
  have hL5 := hts (.initialized RX7) (by decide +kernel)
  have hL6 := hts (.methodLink RX10 11 yX7_init) (by decide +kernel)
  have hL7 := hts (.instanceMethod yX7_init) (by decide +kernel)
  have hL8 := hts (.fieldLink RX10 14 "SkyLights$Tape" "bytes" "LSkyLights$Row;") (by decide +kernel)
  have hL9 := hts (.fieldLink RX10 20 "SkyLights$Tape" "size" "I") (by decide +kernel)
  have hL10 := hts (.fieldLink RX10 24 "SkyLights$Tape" "place" "I") (by decide +kernel)
  have hL11 := hts (.fieldLink RX10 27 "SkyLights$Tape" "faulty" "Z") (by decide +kernel)
  have hI7 : ∀ w ∈ u_ws RX7 TX7 1, w ∈ wsX10_init := by decide +kernel
  have hI10 : ∀ w ∈ u_ws RX10 TX10 4, w ∈ wsX10_init := by decide +kernel
  have hS : va_S (sk_A G) s.heap s.heap [] := va_S.rf
  have hw := hU
  have hl := lv_entry ([.ref (sk_ad G 1)]) (n := 1) (Nat.le_of_ble_eq_true rfl)
  rw [lg_entry_eq]
  generalize (lg_sl ([.ref (sk_ad G 1)]) ++ List.replicate (1 - (lg_sl ([.ref (sk_ad G 1)])).length) Slot.unset).toArray = ls at hl ⊢
  have hl : lv_has ls 1 [(0, .ref (sk_ad G 1))] := hl
  refine lv_aload_n hx hb (okX10_init (0, .aload_n 0, 1) (List.mem_of_getElem? (i := 0) rfl)) rfl (lv_at hl 0 rfl) ?_
  refine W.objInit hx hb hown hL0 hL1 hL2 rfl (by rw [hml]; exact hl.1) rfl (okX10_init (1, .invokespecial 3, 3) (List.mem_of_getElem? (i := 1) rfl)) (Nat.le_of_ble_eq_true rfl) (Nat.le_of_ble_eq_true rfl) ?_
  refine W.eq (g2 := F0 m 4 ls []) rfl ?_
  refine lv_aload_n hx hb (okX10_init (4, .aload_n 0, 1) (List.mem_of_getElem? (i := 2) rfl)) rfl (lv_at hl 0 rfl) ?_
  refine sk_new (n := 2) (ci := 7) S hK hw hS (fun x q h => hB x q (by omega)) (C := RX7) (T := TX7) (N := 1) rfl hI7 tyX7 tyX7_ok ⟨by decide +kernel, rfl, by decide⟩ (by decide) hL3 hL4 hL5 ⟨Nat.le_of_ble_eq_true rfl, Nat.le_of_ble_eq_true rfl⟩ (okX10_init (5, .new 9, 3) (List.mem_of_getElem? (i := 3) rfl)) (fun H hw hS => ?_)
  refine lv_dup hx hb (okX10_init (8, .dup, 1) (List.mem_of_getElem? (i := 4) rfl)) rfl ?_
  refine lv_sipush (v := iI 300) hx hb (okX10_init (9, .sipush 300, 3) (List.mem_of_getElem? (i := 5) rfl)) (by decide +kernel) ?_
  refine cU_cv (va_runI (As := [.int (iI 300)]) (rest := [.ref (sk_ad G 2), .ref (sk_ad G 1)]) S (c_Row_init l G (a := 2) (n := 3) (by decide +kernel) rfl (fun x q h => hB x q (by omega)) 300 (by decide +kernel) (by decide) 300 rfl (by decide)) (cwI 1 hts gX10_init_X7_init rfl rfl rfl hL5 hL6 hL7 rfl (by decide +kernel) ⟨Nat.le_of_ble_eq_true rfl, Nat.le_of_ble_eq_true rfl⟩) ⟨cU_blind, cU_pre hK hw⟩ rfl rfl hl.1 rfl (lv_room (Nat.le_of_ble_eq_true rfl)) (okX10_init (12, .invokespecial 11, 3) (List.mem_of_getElem? (i := 6) rfl)) ⟨Nat.le_of_ble_eq_true rfl, Nat.le_of_ble_eq_true rfl⟩) hS (fun H locs hw hS => ?_)
  refine sk_putr (b := 2) S hK hw hS kdn_1 (by omega) (T := TX10) (N := 4) rfl hI10 tyX10 tyX10_ok nmX10 0 ⟨by decide, rfl, by decide, rfl, rfl⟩ rfl rfl hin (k' := 0) rfl (by decide +kernel) (fun _ => ⟨rfl, rfl⟩) hL8 (okX10_init (15, .putfield 14, 3) (List.mem_of_getElem? (i := 7) rfl)) (fun H locs hw hS => ?_)
  refine lv_aload_n hx hb (okX10_init (18, .aload_n 0, 1) (List.mem_of_getElem? (i := 8) rfl)) rfl (lv_at hl 0 rfl) ?_
  refine lv_iconst (v := iI 0) hx hb (okX10_init (19, .iconst 0, 1) (List.mem_of_getElem? (i := 9) rfl)) rfl ?_
  refine sk_put S hK ⟨hw, hS⟩ kdn_1 (by omega) (C := RX10) (T := TX10) (N := 4) rfl hI10 tyX10 tyX10_ok nmX10 1 ⟨by decide, rfl, by decide, rfl⟩ rfl rfl (k' := 1) rfl (by decide) ⟨rfl, rfl⟩ hL9 (okX10_init (20, .putfield 20, 3) (List.mem_of_getElem? (i := 10) rfl)) (fun H locs hwp => ?_)
  have hS := hwp.2
  have hw := cw.put hwp.1 (by decide +kernel) (fun j hj i hi => by unfold isrs; rw [hi, kdn_1]; rw [show j = 1 by omega]; rfl)
  refine lv_aload_n hx hb (okX10_init (23, .aload_n 0, 1) (List.mem_of_getElem? (i := 11) rfl)) rfl (lv_at hl 0 rfl) ?_
  refine lv_iconst (v := iI 0) hx hb (okX10_init (24, .iconst 0, 1) (List.mem_of_getElem? (i := 12) rfl)) rfl ?_
  refine sk_put S hK ⟨hw, hS⟩ kdn_1 (by omega) (C := RX10) (T := TX10) (N := 4) rfl hI10 tyX10 tyX10_ok nmX10 2 ⟨by decide, rfl, by decide, rfl⟩ rfl rfl (k' := 2) rfl (by decide) ⟨rfl, rfl⟩ hL10 (okX10_init (25, .putfield 24, 3) (List.mem_of_getElem? (i := 13) rfl)) (fun H locs hwp => ?_)
  have hS := hwp.2
  have hw := cw.put hwp.1 (by decide +kernel) (fun j hj i hi => by unfold isrs; rw [hi, kdn_1]; rw [show j = 2 by omega]; rfl)
  refine lv_aload_n hx hb (okX10_init (28, .aload_n 0, 1) (List.mem_of_getElem? (i := 14) rfl)) rfl (lv_at hl 0 rfl) ?_
  refine lv_iconst (v := iI 0) hx hb (okX10_init (29, .iconst 0, 1) (List.mem_of_getElem? (i := 15) rfl)) rfl ?_
  refine sk_put S hK ⟨hw, hS⟩ kdn_1 (by omega) (C := RX10) (T := TX10) (N := 4) rfl hI10 tyX10 tyX10_ok nmX10 3 ⟨by decide, rfl, by decide, rfl⟩ rfl rfl (k' := 3) rfl (by decide) ⟨rfl, rfl⟩ hL11 (okX10_init (30, .putfield 27, 3) (List.mem_of_getElem? (i := 16) rfl)) (fun H locs hwp => ?_)
  have hS := hwp.2
  have hw := cw.put hwp.1 (by decide +kernel) (fun j hj i hi => by unfold isrs; rw [hi, kdn_1]; rw [show j = 3 by omega]; rfl)
  have hfin : cw G (4) (bx B 1 4) H := by
    have hother : ∀ i : Nat, (i : Int) < 4 → (i : Int) ≠ 1 → ∀ q : Int, (i : Int) ≠ 3 → (uB (uB (uB (uB (bx (B) 2 (2 + 1)) 1 0) 1 1) 1 2) 1 3) i q = bx B 1 4 i q := by
      intro i hi e q e0 
      by_cases e9 : (i : Int) < 1
      · exact ((uB_o (by omega)).trans ((uB_o (by omega)).trans ((uB_o (by omega)).trans ((uB_o (by omega)).trans ((bx_o (by omega)).trans (rfl)))))).trans (bx_o (by omega)).symm
      · rcases (by omega : (2 ≤ (i : Int) ∧ (i : Int) < 2 + 1)) with h
        · exact (uB_m (uB_m (uB_m (uB_m (bx_h (by omega)))))).trans (bx_h (by omega)).symm
    refine hw.cong (fun i hi q hq => ?_) (fun i hi q => ?_)
    · by_cases e : (i : Int) = 1
      · unfold isrs at hq; rw [e, kdn_1] at hq
        rw [e]
        rcases isr_10 q hq with h
        · subst h; exact (uB_m (uB_m (uB_m (uB_h rfl rfl)))).trans (bx_h (by omega)).symm
      · by_cases e0 : (i : Int) = 3
        · unfold isrs at hq; rw [e0, kdn_3] at hq; simp at hq
        · exact hother i (by omega) e q e0
    · by_cases e : (i : Int) = 1
      · right; unfold I0; rw [e, kdn_1]; try rfl
      · by_cases e0 : (i : Int) = 3
        · right; unfold I0; rw [e0, kdn_3]; simp only []; rw [if_neg (by omega)]
        · left; exact hother i (by omega) e q e0
  refine W.widen (k := 2) (n := 301) (by decide) (by decide) ?_
  exact cU_ret hx hb hr0 hlocks hK hfin hS (okX10_init (33, .return_, 1) (List.mem_of_getElem? (i := 17) rfl))
set_option maxHeartbeats 4000000 in
set_option maxRecDepth 100000 in
theorem c_Gallery_init (l : Launch) (G : sk_G) {B : Int → Int → Bool} (hB : ∀ x k, ((5 : Nat) : Int) ≤ x → B x k = false) : Met l yX2_init wsX2_init ({ frames := 3, cells := 31, slots := 438, locals := 53 }) (va_Pc [.ref (sk_ad G 4)] (cU G 5 B)) (cQ G 36 (bx B 4 36)) 31 438 (sk_A G) := by
  refine Met.ofW (cc := cX2_init) (maxL := 2) (ret := none) (by decide) rfl ?_
  intro p e s m args below meth c s₁ B9 hml hv
  obtain ⟨rfl, hU, hK⟩ := hv
  have hx := B9.exec
  have hb := B9.bytes
  have hr0 := B9.returns
  have hts := atoms_spec (ws := wsX2_init) B9.pre
  have hown : s.vm.findClass RX2 = some m.cls := findClass_of_methodNamed B9.named
  have hlocks := B9.notSynchronized
  have hin : meth.name = "<init>" := (name_of_methodNamed B9.named B9.method).1
  have S : CallFix p m c cX2_init 2 s ([.ref (sk_ad G 4)].toArray) wsX2_init RX2 := ⟨hx, hb, hml, hown, hts⟩
  have hL0 := hts (.methodLink RX2 3 objectInit) (by decide +kernel)
  have hL1 := hts (.instanceMethod objectInit) (by decide +kernel)
  have hL2 := hts (.code objectInit ⟨#[0xb1]⟩ 1 none) (by decide +kernel)
  have hL3 := hts (.classLink RX2 9 RX5) (by decide +kernel)
  have hL4 := hts (.instantiable RX5 2) (by decide +kernel)
  have hL5 := hts (.initialized RX5) (by decide +kernel)
  have hL6 := hts (.instanceMethod yX5_init) (by decide +kernel)
  have hL7 := hts (.fieldLink RX2 12 "SkyLights$Gallery" "pads" "LSkyLights$Places;") (by decide +kernel)
  have hL8 := hts (.fieldLink RX2 18 "SkyLights$Gallery" "figures" "[LSkyLights$Places;") (by decide +kernel)
  have hL9 := hts (.fieldLink RX2 22 "SkyLights$Gallery" "nothing" "LSkyLights$Places;") (by decide +kernel)
  have hL10 := hts (.fieldLink RX2 25 "SkyLights$Gallery" "size" "I") (by decide +kernel)
  have hI2 : ∀ w ∈ u_ws RX2 TX2 4, w ∈ wsX2_init := by decide +kernel
  have hI5 : ∀ w ∈ u_ws RX5 TX5 2, w ∈ wsX2_init := by decide +kernel
  have hS : va_S (sk_A G) s.heap s.heap [] := va_S.rf
  have hw := hU
  have hl := lv_entry ([.ref (sk_ad G 4)]) (n := 2) (Nat.le_of_ble_eq_true rfl)
  rw [lg_entry_eq]
  generalize (lg_sl ([.ref (sk_ad G 4)]) ++ List.replicate (2 - (lg_sl ([.ref (sk_ad G 4)])).length) Slot.unset).toArray = ls at hl ⊢
  have hl : lv_has ls 2 [(0, .ref (sk_ad G 4))] := hl
  obtain ⟨BL, hBL⟩ : ∃ BL : Nat → Int → Int → Bool, ∀ (i : Nat) (x j : Int), BL i x j = if (12 ≤ x ∧ x < 12 + 3 * (i : Int)) ∨ (x = 8 ∧ 0 ≤ j ∧ j < i) then true else (uB (uB (bx (uB (uB (bx (B) 5 8) 4 0) 4 1) 9 12) 4 2) 4 3) x j := ⟨_, fun _ _ _ => rfl⟩
  have BL_m : ∀ {i : Nat} {x j : Int}, (uB (uB (bx (uB (uB (bx (B) 5 8) 4 0) 4 1) 9 12) 4 2) 4 3) x j = true → BL i x j = true := fun h => by rw [hBL]; split; rfl; exact h
  have BL_h : ∀ {i : Nat} {x j : Int}, ((12 ≤ x ∧ x < 12 + 3 * (i : Int)) ∨ (x = 8 ∧ 0 ≤ j ∧ j < i)) → BL i x j = true := fun h => by rw [hBL, if_pos h]
  have BL_o : ∀ {i : Nat} {x j : Int}, ¬ (12 ≤ x ∧ x < 12 + 3 * (i : Int)) → x ≠ 8 → BL i x j = (uB (uB (bx (uB (uB (bx (B) 5 8) 4 0) 4 1) 9 12) 4 2) 4 3) x j := fun h h2 => by rw [hBL, if_neg (fun q => q.elim h (fun q => h2 q.1))]
  have loop : ∀ (r i : Nat), i + r = 8 → ∀ (cells slots : Nat) (H : Heap) (locs : List Loc) (ls : Array Slot), cells + 3 * r ≤ 31 → slots + 43 * r ≤ 438 → cw G (12 + 3 * i) (BL i) H → va_S (sk_A G) s.heap H locs → lv_has ls 2 [(1, .int (iI (i : Int))), (0, .ref (sk_ad G 4))] → W p l e (headSpec wsX2_init ({ frames := 3, cells := 31, slots := 438, locals := 53 })).room s m ([.ref (sk_ad G 4)].toArray) below meth c H locs cells slots (MQ below (cQ G 36 (bx B 4 36)) ([.ref (sk_ad G 4)].toArray) s 31 438 (sk_A G)) (F0 m 42 ls []) := by
    intro r
    induction r with
    | zero =>
      intro i hi cells slots H locs ls hc1 hs1 hw hS hl
      refine lv_iload_n hx hb (okX2_init (42, .iload_n 1, 1) (List.mem_of_getElem? (i := 21) rfl)) rfl (lv_at hl 0 rfl) ?_
      refine lv_aload_n hx hb (okX2_init (43, .aload_n 0, 1) (List.mem_of_getElem? (i := 22) rfl)) rfl (lv_at hl 1 rfl) ?_
      refine sk_getr (b := 8) S hK ⟨hw, hS⟩ kdn_4 (by omega) (C := RX2) (T := TX2) (N := 4) rfl hI2 1 ⟨by decide, rfl, by decide, rfl⟩ rfl (k' := 1) rfl (BL_m (uB_m (uB_m (bx_m (uB_h rfl rfl))))) (by decide +kernel) hL8 (okX2_init (44, .getfield 18, 3) (List.mem_of_getElem? (i := 23) rfl)) ?_
      refine sk_len S hK ⟨hw, hS⟩ (Or.inr (Or.inl kdn_8)) (by omega) (okX2_init (47, .arraylength, 1) (List.mem_of_getElem? (i := 24) rfl)) ?_
      rw [lnn_8]
      refine sk_icmp_ge (tgt := 70) hx hb ⟨by omega, by omega⟩ (by decide) (okX2_init (48, .if_icmp .ge 22, 3) (List.mem_of_getElem? (i := 25) rfl)) (by decide) (fun c9 => ?_) (fun c9 => absurd c9 (by omega))
      obtain rfl : i = 8 := by omega
      have hfin : cw G 36 (bx B 4 36) H := by
        have hother : ∀ i : Nat, (i : Int) < 36 → (i : Int) ≠ 4 → ∀ q : Int, (i : Int) ≠ 8 → (BL 8) i q = bx B 4 36 i q := by
          intro i hi e q ea
          by_cases e9 : (i : Int) < 4
          · exact ((BL_o (by omega) (by omega)).trans ((uB_o (by omega)).trans ((uB_o (by omega)).trans ((bx_o (by omega)).trans ((uB_o (by omega)).trans ((uB_o (by omega)).trans ((bx_o (by omega)).trans (rfl)))))))).trans (bx_o (by omega)).symm
          · rcases (by omega : (5 ≤ (i : Int) ∧ (i : Int) < 8) ∨ (9 ≤ (i : Int) ∧ (i : Int) < 12) ∨ ((12 ≤ (i : Int) ∧ (i : Int) < 36))) with h | h | h
            · exact (BL_m (uB_m (uB_m (bx_m (uB_m (uB_m (bx_h (by omega)))))))).trans (bx_h (by omega)).symm
            · exact (BL_m (uB_m (uB_m (bx_h (by omega))))).trans (bx_h (by omega)).symm
            · exact (BL_h (by omega)).trans (bx_h (by omega)).symm
        refine hw.cong (fun i hi q hq => ?_) (fun i hi q => ?_)
        · by_cases e : (i : Int) = 4
          · unfold isrs at hq; rw [e, kdn_4] at hq
            rw [e]
            rcases isr_2 q hq with h | h | h
            · subst h; exact (BL_m (uB_m (uB_m (bx_m (uB_m (uB_h rfl rfl)))))).trans (bx_h (by omega)).symm
            · subst h; exact (BL_m (uB_m (uB_m (bx_m (uB_h rfl rfl))))).trans (bx_h (by omega)).symm
            · subst h; exact (BL_m (uB_m (uB_h rfl rfl))).trans (bx_h (by omega)).symm
          · by_cases ea : (i : Int) = 8
            · unfold isrs at hq; rw [ea, kdn_8, lnn_8] at hq
              have hq2 : q < 8 := by simpa using hq
              exact (BL_h (by omega)).trans (bx_h (by omega)).symm
            · exact hother i (by omega) e q ea
        · by_cases e : (i : Int) = 4
          · right; unfold I0; rw [e, kdn_4]; try rfl
          · by_cases ea : (i : Int) = 8
            · right; unfold I0; rw [ea, kdn_8]; try rfl
            · left; exact hother i (by omega) e q ea
      refine W.widen (k := 31) (n := 438) (by omega) (by omega) ?_
      exact cU_ret hx hb hr0 hlocks hK hfin hS (okX2_init (70, .return_, 1) (List.mem_of_getElem? (i := 35) rfl))
    | succ r ih =>
      intro i hi cells slots H locs ls hc1 hs1 hw hS hl
      refine lv_iload_n hx hb (okX2_init (42, .iload_n 1, 1) (List.mem_of_getElem? (i := 21) rfl)) rfl (lv_at hl 0 rfl) ?_
      refine lv_aload_n hx hb (okX2_init (43, .aload_n 0, 1) (List.mem_of_getElem? (i := 22) rfl)) rfl (lv_at hl 1 rfl) ?_
      refine sk_getr (b := 8) S hK ⟨hw, hS⟩ kdn_4 (by omega) (C := RX2) (T := TX2) (N := 4) rfl hI2 1 ⟨by decide, rfl, by decide, rfl⟩ rfl (k' := 1) rfl (BL_m (uB_m (uB_m (bx_m (uB_h rfl rfl))))) (by decide +kernel) hL8 (okX2_init (44, .getfield 18, 3) (List.mem_of_getElem? (i := 23) rfl)) ?_
      refine sk_len S hK ⟨hw, hS⟩ (Or.inr (Or.inl kdn_8)) (by omega) (okX2_init (47, .arraylength, 1) (List.mem_of_getElem? (i := 24) rfl)) ?_
      rw [lnn_8]
      refine sk_icmp_ge (tgt := 70) hx hb ⟨by omega, by omega⟩ (by decide) (okX2_init (48, .if_icmp .ge 22, 3) (List.mem_of_getElem? (i := 25) rfl)) (by decide) (fun c9 => absurd c9 (by omega)) (fun c9 => ?_)
      refine lv_aload_n hx hb (okX2_init (51, .aload_n 0, 1) (List.mem_of_getElem? (i := 26) rfl)) rfl (lv_at hl 1 rfl) ?_
      refine sk_getr (b := 8) S hK ⟨hw, hS⟩ kdn_4 (by omega) (C := RX2) (T := TX2) (N := 4) rfl hI2 1 ⟨by decide, rfl, by decide, rfl⟩ rfl (k' := 1) rfl (BL_m (uB_m (uB_m (bx_m (uB_h rfl rfl))))) (by decide +kernel) hL8 (okX2_init (52, .getfield 18, 3) (List.mem_of_getElem? (i := 27) rfl)) ?_
      refine lv_iload_n hx hb (okX2_init (55, .iload_n 1, 1) (List.mem_of_getElem? (i := 28) rfl)) rfl (lv_at hl 0 rfl) ?_
      refine sk_new (n := 12 + 3 * i) (ci := 5) S hK hw hS (fun x q h => (BL_o (by omega) (by omega)).trans ((uB_o (by omega)).trans ((uB_o (by omega)).trans ((bx_o (by omega)).trans ((uB_o (by omega)).trans ((uB_o (by omega)).trans ((bx_o (by omega)).trans (hB x q (by omega))))))))) (C := RX5) (T := TX5) (N := 2) rfl hI5 tyX5 tyX5_ok ⟨(by rw [show ((12 + 3 * i : Nat) : Int) = 12 + 3 * (i : Int) by omega]; exact kd_fig ⟨by omega, by omega⟩), rfl, by decide⟩ (by decide) hL3 hL4 hL5 ⟨by show cells + 1 ≤ 31; omega, by show slots + 2 ≤ 438; omega⟩ (okX2_init (56, .new 9, 3) (List.mem_of_getElem? (i := 29) rfl)) (fun H hw hS => ?_)
      refine lv_dup hx hb (okX2_init (59, .dup, 1) (List.mem_of_getElem? (i := 30) rfl)) rfl ?_
      refine cU_cv (va_runIN (As := []) (rest := [.ref (sk_ad G ((12 + 3 * i : Nat) : Int)), .int (iI (i : Int)), .ref (sk_ad G 8)]) S (c_Places_init l G (a := ((12 + 3 * i : Nat) : Int)) (n := 12 + 3 * i + 1) (by rw [show ((12 + 3 * i : Nat) : Int) = 12 + 3 * (i : Int) by omega]; exact kd_fig ⟨by omega, by omega⟩) (by omega) (fun x q h => (BL_o (by omega) (by omega)).trans ((uB_o (by omega)).trans ((uB_o (by omega)).trans ((bx_o (by omega)).trans ((uB_o (by omega)).trans ((uB_o (by omega)).trans ((bx_o (by omega)).trans (hB x q (by omega)))))))))) ⟨va_cnB 0 hts gX2_init_X5_init_n11 rfl rfl rfl (hK.2.2.1 ("SkyLights$Gallery", 11, yX5_init) (by decide +kernel)) hL5 (by decide +kernel) ⟨Nat.le_of_ble_eq_true rfl, Nat.le_of_ble_eq_true rfl⟩, rfl, hL6⟩ ⟨cU_blind, cU_pre hK hw⟩ rfl rfl hl.1 rfl (lv_room (Nat.le_of_ble_eq_true rfl)) (okX2_init (60, .invokespecial 11, 3) (List.mem_of_getElem? (i := 31) rfl)) ⟨by show cells + 1 + 2 ≤ 31; omega, by show slots + 2 + 41 ≤ 438; omega⟩) hS (fun H locs hw hS => ?_)
      refine sk_ast S hK hw hS (Or.inl ⟨kdn_8, (by rw [show ((12 + 3 * i : Nat) : Int) = 12 + 3 * (i : Int) by omega]; exact kd_fig ⟨by omega, by omega⟩)⟩) (by omega) (by omega) (by rw [lnn_8]; omega) (by rw [rf14]; omega) (okX2_init (63, .aastore, 1) (List.mem_of_getElem? (i := 32) rfl)) (fun H locs hw hS => ?_)
      refine lv_iinc (v := iI ((i : Int) + 1)) (lv' := [(1, .int (iI ((i : Int) + 1))), (0, .ref (sk_ad G 4))]) hx hb (okX2_init (64, .iinc 1 1, 3) (List.mem_of_getElem? (i := 33) rfl)) hl (k := 0) rfl (iI_add _ _) (by decide) rfl (fun ls hl => ?_)
      refine lv_goto (tgt := 42) hx hb (okX2_init (67, .goto (-25), 3) (List.mem_of_getElem? (i := 34) rfl)) (by decide) ?_
      have e9 : uB (bx (BL i) ((12 + 3 * i : Nat) : Int) ((12 + 3 * i + 1 + 2 : Nat) : Int)) 8 (i : Int) = BL (i + 1) := by
        funext x j
        simp only [uB, bx, hBL]; (repeat' split) <;> first | rfl | (exfalso; omega)
      have hw : cw G (12 + 3 * i + 1 + 2) (BL (i + 1)) H := by rw [← e9]; exact hw
      exact ih (i + 1) (by omega) _ _ H locs ls (by omega) (by omega) (by rw [show 12 + 3 * (i + 1) = 12 + 3 * i + 1 + 2 by omega]; exact hw) hS (by rw [show ((i + 1 : Nat) : Int) = (i : Int) + 1 by omega]; exact hl)
  refine lv_aload_n hx hb (okX2_init (0, .aload_n 0, 1) (List.mem_of_getElem? (i := 0) rfl)) rfl (lv_at hl 0 rfl) ?_
  refine W.objInit hx hb hown hL0 hL1 hL2 rfl (by rw [hml]; exact hl.1) rfl (okX2_init (1, .invokespecial 3, 3) (List.mem_of_getElem? (i := 1) rfl)) (Nat.le_of_ble_eq_true rfl) (Nat.le_of_ble_eq_true rfl) ?_
  refine W.eq (g2 := F0 m 4 ls []) rfl ?_
  refine lv_aload_n hx hb (okX2_init (4, .aload_n 0, 1) (List.mem_of_getElem? (i := 2) rfl)) rfl (lv_at hl 0 rfl) ?_
  refine sk_new (n := 5) (ci := 5) S hK hw hS (fun x q h => hB x q (by omega)) (C := RX5) (T := TX5) (N := 2) rfl hI5 tyX5 tyX5_ok ⟨by decide +kernel, rfl, by decide⟩ (by decide) hL3 hL4 hL5 ⟨Nat.le_of_ble_eq_true rfl, Nat.le_of_ble_eq_true rfl⟩ (okX2_init (5, .new 9, 3) (List.mem_of_getElem? (i := 3) rfl)) (fun H hw hS => ?_)
  refine lv_dup hx hb (okX2_init (8, .dup, 1) (List.mem_of_getElem? (i := 4) rfl)) rfl ?_
  refine cU_cv (va_runIN (As := []) (rest := [.ref (sk_ad G 5), .ref (sk_ad G 4)]) S (c_Places_init l G (a := 5) (n := 6) (by decide +kernel) rfl (fun x q h => hB x q (by omega))) ⟨va_cnB 0 hts gX2_init_X5_init_n11 rfl rfl rfl (hK.2.2.1 ("SkyLights$Gallery", 11, yX5_init) (by decide +kernel)) hL5 (by decide +kernel) ⟨Nat.le_of_ble_eq_true rfl, Nat.le_of_ble_eq_true rfl⟩, rfl, hL6⟩ ⟨cU_blind, cU_pre hK hw⟩ rfl rfl hl.1 rfl (lv_room (Nat.le_of_ble_eq_true rfl)) (okX2_init (9, .invokespecial 11, 3) (List.mem_of_getElem? (i := 5) rfl)) ⟨Nat.le_of_ble_eq_true rfl, Nat.le_of_ble_eq_true rfl⟩) hS (fun H locs hw hS => ?_)
  refine sk_putr (b := 5) S hK hw hS kdn_4 (by omega) (T := TX2) (N := 4) rfl hI2 tyX2 tyX2_ok nmX2 0 ⟨by decide, rfl, by decide, rfl, rfl⟩ rfl rfl hin (k' := 0) rfl (by decide +kernel) (fun _ => ⟨rfl, rfl⟩) hL7 (okX2_init (12, .putfield 12, 3) (List.mem_of_getElem? (i := 6) rfl)) (fun H locs hw hS => ?_)
  refine lv_aload_n hx hb (okX2_init (15, .aload_n 0, 1) (List.mem_of_getElem? (i := 7) rfl)) rfl (lv_at hl 0 rfl) ?_
  refine lv_bipush (v := iI 8) hx hb (okX2_init (16, .bipush 8, 2) (List.mem_of_getElem? (i := 8) rfl)) (by decide +kernel) ?_
  refine sk_newR (n := 8) (N := 8) (C := RX5) S hK hw hS (fun x q h => (uB_o (by omega)).trans ((bx_o (by omega)).trans (hB x q (by omega)))) (Or.inl ⟨by decide +kernel, rfl⟩) (by decide +kernel) (by decide) hL3 ⟨Nat.le_of_ble_eq_true rfl, Nat.le_of_ble_eq_true rfl⟩ (okX2_init (18, .anewarray 9, 3) (List.mem_of_getElem? (i := 9) rfl)) (fun H hw hS => ?_)
  refine sk_putr (b := 8) S hK hw hS kdn_4 (by omega) (T := TX2) (N := 4) rfl hI2 tyX2 tyX2_ok nmX2 1 ⟨by decide, rfl, by decide, rfl, rfl⟩ rfl rfl hin (k' := 1) rfl (by decide +kernel) (fun _ => ⟨rfl, rfl⟩) hL8 (okX2_init (21, .putfield 18, 3) (List.mem_of_getElem? (i := 10) rfl)) (fun H locs hw hS => ?_)
  refine lv_aload_n hx hb (okX2_init (24, .aload_n 0, 1) (List.mem_of_getElem? (i := 11) rfl)) rfl (lv_at hl 0 rfl) ?_
  refine sk_new (n := 9) (ci := 5) S hK hw hS (fun x q h => (uB_o (by omega)).trans ((uB_o (by omega)).trans ((bx_o (by omega)).trans (hB x q (by omega))))) (C := RX5) (T := TX5) (N := 2) rfl hI5 tyX5 tyX5_ok ⟨by decide +kernel, rfl, by decide⟩ (by decide) hL3 hL4 hL5 ⟨Nat.le_of_ble_eq_true rfl, Nat.le_of_ble_eq_true rfl⟩ (okX2_init (25, .new 9, 3) (List.mem_of_getElem? (i := 12) rfl)) (fun H hw hS => ?_)
  refine lv_dup hx hb (okX2_init (28, .dup, 1) (List.mem_of_getElem? (i := 13) rfl)) rfl ?_
  refine cU_cv (va_runIN (As := []) (rest := [.ref (sk_ad G 9), .ref (sk_ad G 4)]) S (c_Places_init l G (a := 9) (n := 10) (by decide +kernel) rfl (fun x q h => (uB_o (by omega)).trans ((uB_o (by omega)).trans ((bx_o (by omega)).trans (hB x q (by omega)))))) ⟨va_cnB 0 hts gX2_init_X5_init_n11 rfl rfl rfl (hK.2.2.1 ("SkyLights$Gallery", 11, yX5_init) (by decide +kernel)) hL5 (by decide +kernel) ⟨Nat.le_of_ble_eq_true rfl, Nat.le_of_ble_eq_true rfl⟩, rfl, hL6⟩ ⟨cU_blind, cU_pre hK hw⟩ rfl rfl hl.1 rfl (lv_room (Nat.le_of_ble_eq_true rfl)) (okX2_init (29, .invokespecial 11, 3) (List.mem_of_getElem? (i := 14) rfl)) ⟨Nat.le_of_ble_eq_true rfl, Nat.le_of_ble_eq_true rfl⟩) hS (fun H locs hw hS => ?_)
  refine sk_putr (b := 9) S hK hw hS kdn_4 (by omega) (T := TX2) (N := 4) rfl hI2 tyX2 tyX2_ok nmX2 2 ⟨by decide, rfl, by decide, rfl, rfl⟩ rfl rfl hin (k' := 2) rfl (by decide +kernel) (fun _ => ⟨rfl, rfl⟩) hL9 (okX2_init (32, .putfield 22, 3) (List.mem_of_getElem? (i := 15) rfl)) (fun H locs hw hS => ?_)
  refine lv_aload_n hx hb (okX2_init (35, .aload_n 0, 1) (List.mem_of_getElem? (i := 16) rfl)) rfl (lv_at hl 0 rfl) ?_
  refine lv_iconst (v := iI 0) hx hb (okX2_init (36, .iconst 0, 1) (List.mem_of_getElem? (i := 17) rfl)) rfl ?_
  refine sk_put S hK ⟨hw, hS⟩ kdn_4 (by omega) (C := RX2) (T := TX2) (N := 4) rfl hI2 tyX2 tyX2_ok nmX2 3 ⟨by decide, rfl, by decide, rfl⟩ rfl rfl (k' := 3) rfl (by decide) ⟨rfl, rfl⟩ hL10 (okX2_init (37, .putfield 25, 3) (List.mem_of_getElem? (i := 18) rfl)) (fun H locs hwp => ?_)
  have hS := hwp.2
  have hw := cw.put hwp.1 (by decide +kernel) (fun j hj i hi => by unfold isrs; rw [hi, kdn_4]; rw [show j = 3 by omega]; rfl)
  refine lv_iconst (v := iI 0) hx hb (okX2_init (40, .iconst 0, 1) (List.mem_of_getElem? (i := 19) rfl)) rfl ?_
  refine lv_istore_n (lv' := [(1, .int (iI 0)), (0, .ref (sk_ad G 4))]) hx hb (okX2_init (41, .istore_n 1, 1) (List.mem_of_getElem? (i := 20) rfl)) rfl hl (by decide) rfl (fun ls hl => ?_)
  have e9 : uB (uB (bx (uB (uB (bx (B) 5 8) 4 0) 4 1) 9 12) 4 2) 4 3 = BL 0 := by
    funext x j
    rw [hBL, if_neg (by omega)]
  have hw : cw G 12 (BL 0) H := by rw [← e9]; exact hw
  exact loop 8 0 rfl _ _ H locs ls (by omega) (by omega) hw hS hl
set_option maxHeartbeats 4000000 in
set_option maxRecDepth 100000 in
theorem c_Planner_init (l : Launch) (G : sk_G) {B : Int → Int → Bool} (hB : ∀ x k, ((38 : Nat) : Int) ≤ x → B x k = false) : Met l yX6_init wsX6_init ({ frames := 2, cells := 6, slots := 1137, locals := 33 }) (va_Pc [.ref (sk_ad G 37)] (cU G (38) B)) (cQ G (44) (bx B 37 44)) 6 1137 (sk_A G) := by
  refine Met.ofW (cc := cX6_init) (maxL := 1) (ret := none) (by decide) rfl ?_
  intro p e s m args below meth c s₁ B9 hml hv
  obtain ⟨rfl, hU, hK⟩ := hv
  have hx := B9.exec
  have hb := B9.bytes
  have hr0 := B9.returns
  have hts := atoms_spec (ws := wsX6_init) B9.pre
  have hown : s.vm.findClass RX6 = some m.cls := findClass_of_methodNamed B9.named
  have hlocks := B9.notSynchronized
  have hin : meth.name = "<init>" := (name_of_methodNamed B9.named B9.method).1
  have S : CallFix p m c cX6_init 1 s ([.ref (sk_ad G 37)].toArray) wsX6_init RX6 := ⟨hx, hb, hml, hown, hts⟩
  have hL0 := hts (.methodLink RX6 3 objectInit) (by decide +kernel)
  have hL1 := hts (.instanceMethod objectInit) (by decide +kernel)
  have hL2 := hts (.code objectInit ⟨#[0xb1]⟩ 1 none) (by decide +kernel)
  have hL3 := hts (.classLink RX6 9 RX7) (by decide +kernel)
  have hL4 := hts (.instantiable RX7 1) (by decide +kernel)
  have hL5 := hts (.initialized RX7) (by decide +kernel)
  have hL6 := hts (.methodLink RX6 11 yX7_init) (by decide +kernel)
  have hL7 := hts (.instanceMethod yX7_init) (by decide +kernel)
  have hL8 := hts (.fieldLink RX6 14 "SkyLights$Planner" "ways" "LSkyLights$Row;") (by decide +kernel)
  have hL9 := hts (.fieldLink RX6 20 "SkyLights$Planner" "needs" "LSkyLights$Row;") (by decide +kernel)
  have hL10 := hts (.fieldLink RX6 23 "SkyLights$Planner" "goals" "LSkyLights$Row;") (by decide +kernel)
  have hI6 : ∀ w ∈ u_ws RX6 TX6 3, w ∈ wsX6_init := by decide +kernel
  have hI7 : ∀ w ∈ u_ws RX7 TX7 1, w ∈ wsX6_init := by decide +kernel
  have hS : va_S (sk_A G) s.heap s.heap [] := va_S.rf
  have hw := hU
  have hl := lv_entry ([.ref (sk_ad G 37)]) (n := 1) (Nat.le_of_ble_eq_true rfl)
  rw [lg_entry_eq]
  generalize (lg_sl ([.ref (sk_ad G 37)]) ++ List.replicate (1 - (lg_sl ([.ref (sk_ad G 37)])).length) Slot.unset).toArray = ls at hl ⊢
  have hl : lv_has ls 1 [(0, .ref (sk_ad G 37))] := hl
  refine lv_aload_n hx hb (okX6_init (0, .aload_n 0, 1) (List.mem_of_getElem? (i := 0) rfl)) rfl (lv_at hl 0 rfl) ?_
  refine W.objInit hx hb hown hL0 hL1 hL2 rfl (by rw [hml]; exact hl.1) rfl (okX6_init (1, .invokespecial 3, 3) (List.mem_of_getElem? (i := 1) rfl)) (Nat.le_of_ble_eq_true rfl) (Nat.le_of_ble_eq_true rfl) ?_
  refine W.eq (g2 := F0 m 4 ls []) rfl ?_
  refine lv_aload_n hx hb (okX6_init (4, .aload_n 0, 1) (List.mem_of_getElem? (i := 2) rfl)) rfl (lv_at hl 0 rfl) ?_
  refine sk_new (n := 38) (ci := 7) S hK hw hS (fun x q h => hB x q (by omega)) (C := RX7) (T := TX7) (N := 1) rfl hI7 tyX7 tyX7_ok ⟨by decide +kernel, rfl, by decide⟩ (by decide) hL3 hL4 hL5 ⟨Nat.le_of_ble_eq_true rfl, Nat.le_of_ble_eq_true rfl⟩ (okX6_init (5, .new 9, 3) (List.mem_of_getElem? (i := 3) rfl)) (fun H hw hS => ?_)
  refine lv_dup hx hb (okX6_init (8, .dup, 1) (List.mem_of_getElem? (i := 4) rfl)) rfl ?_
  refine lv_bipush (v := iI 100) hx hb (okX6_init (9, .bipush 100, 2) (List.mem_of_getElem? (i := 5) rfl)) (by decide +kernel) ?_
  refine cU_cv (va_runI (As := [.int (iI 100)]) (rest := [.ref (sk_ad G 38), .ref (sk_ad G 37)]) S (c_Row_init l G (a := 38) (n := 39) (by decide +kernel) rfl (fun x q h => hB x q (by omega)) 100 (by decide +kernel) (by decide) 100 rfl (by decide)) (cwI 1 hts gX6_init_X7_init rfl rfl rfl hL5 hL6 hL7 rfl (by decide +kernel) ⟨Nat.le_of_ble_eq_true rfl, Nat.le_of_ble_eq_true rfl⟩) ⟨cU_blind, cU_pre hK hw⟩ rfl rfl hl.1 rfl (lv_room (Nat.le_of_ble_eq_true rfl)) (okX6_init (11, .invokespecial 11, 3) (List.mem_of_getElem? (i := 6) rfl)) ⟨Nat.le_of_ble_eq_true rfl, Nat.le_of_ble_eq_true rfl⟩) hS (fun H locs hw hS => ?_)
  refine sk_putr (b := 38) S hK hw hS kdn_37 (by omega) (T := TX6) (N := 3) rfl hI6 tyX6 tyX6_ok nmX6 0 ⟨by decide, rfl, by decide, rfl, rfl⟩ rfl rfl hin (k' := 0) rfl (by decide +kernel) (fun _ => ⟨rfl, rfl⟩) hL8 (okX6_init (14, .putfield 14, 3) (List.mem_of_getElem? (i := 7) rfl)) (fun H locs hw hS => ?_)
  refine lv_aload_n hx hb (okX6_init (17, .aload_n 0, 1) (List.mem_of_getElem? (i := 8) rfl)) rfl (lv_at hl 0 rfl) ?_
  refine sk_new (n := 40) (ci := 7) S hK hw hS (fun x q h => (uB_o (by omega)).trans ((bx_o (by omega)).trans (hB x q (by omega)))) (C := RX7) (T := TX7) (N := 1) rfl hI7 tyX7 tyX7_ok ⟨by decide +kernel, rfl, by decide⟩ (by decide) hL3 hL4 hL5 ⟨Nat.le_of_ble_eq_true rfl, Nat.le_of_ble_eq_true rfl⟩ (okX6_init (18, .new 9, 3) (List.mem_of_getElem? (i := 9) rfl)) (fun H hw hS => ?_)
  refine lv_dup hx hb (okX6_init (21, .dup, 1) (List.mem_of_getElem? (i := 10) rfl)) rfl ?_
  refine lv_sipush (v := iI 1024) hx hb (okX6_init (22, .sipush 1024, 3) (List.mem_of_getElem? (i := 11) rfl)) (by decide +kernel) ?_
  refine cU_cv (va_runI (As := [.int (iI 1024)]) (rest := [.ref (sk_ad G 40), .ref (sk_ad G 37)]) S (c_Row_init l G (a := 40) (n := 41) (by decide +kernel) rfl (fun x q h => (uB_o (by omega)).trans ((bx_o (by omega)).trans (hB x q (by omega)))) 1024 (by decide +kernel) (by decide) 1024 rfl (by decide)) (cwI 1 hts gX6_init_X7_init rfl rfl rfl hL5 hL6 hL7 rfl (by decide +kernel) ⟨Nat.le_of_ble_eq_true rfl, Nat.le_of_ble_eq_true rfl⟩) ⟨cU_blind, cU_pre hK hw⟩ rfl rfl hl.1 rfl (lv_room (Nat.le_of_ble_eq_true rfl)) (okX6_init (25, .invokespecial 11, 3) (List.mem_of_getElem? (i := 12) rfl)) ⟨Nat.le_of_ble_eq_true rfl, Nat.le_of_ble_eq_true rfl⟩) hS (fun H locs hw hS => ?_)
  refine sk_putr (b := 40) S hK hw hS kdn_37 (by omega) (T := TX6) (N := 3) rfl hI6 tyX6 tyX6_ok nmX6 1 ⟨by decide, rfl, by decide, rfl, rfl⟩ rfl rfl hin (k' := 1) rfl (by decide +kernel) (fun _ => ⟨rfl, rfl⟩) hL9 (okX6_init (28, .putfield 20, 3) (List.mem_of_getElem? (i := 13) rfl)) (fun H locs hw hS => ?_)
  refine lv_aload_n hx hb (okX6_init (31, .aload_n 0, 1) (List.mem_of_getElem? (i := 14) rfl)) rfl (lv_at hl 0 rfl) ?_
  refine sk_new (n := 42) (ci := 7) S hK hw hS (fun x q h => (uB_o (by omega)).trans ((bx_o (by omega)).trans ((uB_o (by omega)).trans ((bx_o (by omega)).trans (hB x q (by omega)))))) (C := RX7) (T := TX7) (N := 1) rfl hI7 tyX7 tyX7_ok ⟨by decide +kernel, rfl, by decide⟩ (by decide) hL3 hL4 hL5 ⟨Nat.le_of_ble_eq_true rfl, Nat.le_of_ble_eq_true rfl⟩ (okX6_init (32, .new 9, 3) (List.mem_of_getElem? (i := 15) rfl)) (fun H hw hS => ?_)
  refine lv_dup hx hb (okX6_init (35, .dup, 1) (List.mem_of_getElem? (i := 16) rfl)) rfl ?_
  refine lv_bipush (v := iI 10) hx hb (okX6_init (36, .bipush 10, 2) (List.mem_of_getElem? (i := 17) rfl)) (by decide +kernel) ?_
  refine cU_cv (va_runI (As := [.int (iI 10)]) (rest := [.ref (sk_ad G 42), .ref (sk_ad G 37)]) S (c_Row_init l G (a := 42) (n := 43) (by decide +kernel) rfl (fun x q h => (uB_o (by omega)).trans ((bx_o (by omega)).trans ((uB_o (by omega)).trans ((bx_o (by omega)).trans (hB x q (by omega)))))) 10 (by decide +kernel) (by decide) 10 rfl (by decide)) (cwI 1 hts gX6_init_X7_init rfl rfl rfl hL5 hL6 hL7 rfl (by decide +kernel) ⟨Nat.le_of_ble_eq_true rfl, Nat.le_of_ble_eq_true rfl⟩) ⟨cU_blind, cU_pre hK hw⟩ rfl rfl hl.1 rfl (lv_room (Nat.le_of_ble_eq_true rfl)) (okX6_init (38, .invokespecial 11, 3) (List.mem_of_getElem? (i := 18) rfl)) ⟨Nat.le_of_ble_eq_true rfl, Nat.le_of_ble_eq_true rfl⟩) hS (fun H locs hw hS => ?_)
  refine sk_putr (b := 42) S hK hw hS kdn_37 (by omega) (T := TX6) (N := 3) rfl hI6 tyX6 tyX6_ok nmX6 2 ⟨by decide, rfl, by decide, rfl, rfl⟩ rfl rfl hin (k' := 2) rfl (by decide +kernel) (fun _ => ⟨rfl, rfl⟩) hL10 (okX6_init (41, .putfield 23, 3) (List.mem_of_getElem? (i := 19) rfl)) (fun H locs hw hS => ?_)
  have hfin : cw G (44) (bx B 37 44) H := by
    have hother : ∀ i : Nat, (i : Int) < 44 → (i : Int) ≠ 37 → ∀ q : Int, (i : Int) ≠ 39 → (i : Int) ≠ 41 → (i : Int) ≠ 43 → (uB (bx (uB (bx (uB (bx (B) 38 (38 + 1)) 37 0) 40 (40 + 1)) 37 1) 42 (42 + 1)) 37 2) i q = bx B 37 44 i q := by
      intro i hi e q e0 e1 e2 
      by_cases e9 : (i : Int) < 37
      · exact ((uB_o (by omega)).trans ((bx_o (by omega)).trans ((uB_o (by omega)).trans ((bx_o (by omega)).trans ((uB_o (by omega)).trans ((bx_o (by omega)).trans (rfl))))))).trans (bx_o (by omega)).symm
      · rcases (by omega : (38 ≤ (i : Int) ∧ (i : Int) < 38 + 1) ∨ (40 ≤ (i : Int) ∧ (i : Int) < 40 + 1) ∨ (42 ≤ (i : Int) ∧ (i : Int) < 42 + 1)) with h | h | h
        · exact (uB_m (bx_m (uB_m (bx_m (uB_m (bx_h (by omega))))))).trans (bx_h (by omega)).symm
        · exact (uB_m (bx_m (uB_m (bx_h (by omega))))).trans (bx_h (by omega)).symm
        · exact (uB_m (bx_h (by omega))).trans (bx_h (by omega)).symm
    refine hw.cong (fun i hi q hq => ?_) (fun i hi q => ?_)
    · by_cases e : (i : Int) = 37
      · unfold isrs at hq; rw [e, kdn_37] at hq
        rw [e]
        rcases isr_6 q hq with h | h | h
        · subst h; exact (uB_m (bx_m (uB_m (bx_m (uB_h rfl rfl))))).trans (bx_h (by omega)).symm
        · subst h; exact (uB_m (bx_m (uB_h rfl rfl))).trans (bx_h (by omega)).symm
        · subst h; exact (uB_h rfl rfl).trans (bx_h (by omega)).symm
      · by_cases e0 : (i : Int) = 39
        · unfold isrs at hq; rw [e0, kdn_39] at hq; simp at hq
        · by_cases e1 : (i : Int) = 41
          · unfold isrs at hq; rw [e1, kdn_41] at hq; simp at hq
          · by_cases e2 : (i : Int) = 43
            · unfold isrs at hq; rw [e2, kdn_43] at hq; simp at hq
            · exact hother i (by omega) e q e0 e1 e2
    · by_cases e : (i : Int) = 37
      · right; unfold I0; rw [e, kdn_37]; try rfl
      · by_cases e0 : (i : Int) = 39
        · right; unfold I0; rw [e0, kdn_39]; simp only []; rw [if_neg (by omega)]
        · by_cases e1 : (i : Int) = 41
          · right; unfold I0; rw [e1, kdn_41]; simp only []; rw [if_neg (by omega)]
          · by_cases e2 : (i : Int) = 43
            · right; unfold I0; rw [e2, kdn_43]; simp only []; rw [if_neg (by omega)]
            · left; exact hother i (by omega) e q e0 e1 e2
  refine W.widen (k := 6) (n := 1137) (by decide) (by decide) ?_
  exact cU_ret hx hb hr0 hlocks hK hfin hS (okX6_init (44, .return_, 1) (List.mem_of_getElem? (i := 20) rfl))
set_option maxHeartbeats 4000000 in
set_option maxRecDepth 100000 in
theorem c_Parting_init (l : Launch) (G : sk_G) {B : Int → Int → Bool} (hB : ∀ x k, ((48 : Nat) : Int) ≤ x → B x k = false) : Met l yX3_init wsX3_init ({ frames := 2, cells := 6, slots := 115, locals := 33 }) (va_Pc [.ref (sk_ad G 47)] (cU G (48) B)) (cQ G (54) (bx B 47 54)) 6 115 (sk_A G) := by
  refine Met.ofW (cc := cX3_init) (maxL := 1) (ret := none) (by decide) rfl ?_
  intro p e s m args below meth c s₁ B9 hml hv
  obtain ⟨rfl, hU, hK⟩ := hv
  have hx := B9.exec
  have hb := B9.bytes
  have hr0 := B9.returns
  have hts := atoms_spec (ws := wsX3_init) B9.pre
  have hown : s.vm.findClass RX3 = some m.cls := findClass_of_methodNamed B9.named
  have hlocks := B9.notSynchronized
  have hin : meth.name = "<init>" := (name_of_methodNamed B9.named B9.method).1
  have S : CallFix p m c cX3_init 1 s ([.ref (sk_ad G 47)].toArray) wsX3_init RX3 := ⟨hx, hb, hml, hown, hts⟩
  have hL0 := hts (.methodLink RX3 3 objectInit) (by decide +kernel)
  have hL1 := hts (.instanceMethod objectInit) (by decide +kernel)
  have hL2 := hts (.code objectInit ⟨#[0xb1]⟩ 1 none) (by decide +kernel)
  have hL3 := hts (.classLink RX3 9 RX7) (by decide +kernel)
  have hL4 := hts (.instantiable RX7 1) (by decide +kernel)
  have hL5 := hts (.initialized RX7) (by decide +kernel)
  have hL6 := hts (.methodLink RX3 11 yX7_init) (by decide +kernel)
  have hL7 := hts (.instanceMethod yX7_init) (by decide +kernel)
  have hL8 := hts (.fieldLink RX3 14 "SkyLights$Parting" "meetings" "LSkyLights$Row;") (by decide +kernel)
  have hL9 := hts (.fieldLink RX3 20 "SkyLights$Parting" "tried" "LSkyLights$Row;") (by decide +kernel)
  have hL10 := hts (.fieldLink RX3 23 "SkyLights$Parting" "least" "LSkyLights$Row;") (by decide +kernel)
  have hL11 := hts (.fieldLink RX3 26 "SkyLights$Parting" "size" "I") (by decide +kernel)
  have hL12 := hts (.fieldLink RX3 30 "SkyLights$Parting" "free" "I") (by decide +kernel)
  have hL13 := hts (.fieldLink RX3 33 "SkyLights$Parting" "leastSum" "I") (by decide +kernel)
  have hI3 : ∀ w ∈ u_ws RX3 TX3 6, w ∈ wsX3_init := by decide +kernel
  have hI7 : ∀ w ∈ u_ws RX7 TX7 1, w ∈ wsX3_init := by decide +kernel
  have hS : va_S (sk_A G) s.heap s.heap [] := va_S.rf
  have hw := hU
  have hl := lv_entry ([.ref (sk_ad G 47)]) (n := 1) (Nat.le_of_ble_eq_true rfl)
  rw [lg_entry_eq]
  generalize (lg_sl ([.ref (sk_ad G 47)]) ++ List.replicate (1 - (lg_sl ([.ref (sk_ad G 47)])).length) Slot.unset).toArray = ls at hl ⊢
  have hl : lv_has ls 1 [(0, .ref (sk_ad G 47))] := hl
  refine lv_aload_n hx hb (okX3_init (0, .aload_n 0, 1) (List.mem_of_getElem? (i := 0) rfl)) rfl (lv_at hl 0 rfl) ?_
  refine W.objInit hx hb hown hL0 hL1 hL2 rfl (by rw [hml]; exact hl.1) rfl (okX3_init (1, .invokespecial 3, 3) (List.mem_of_getElem? (i := 1) rfl)) (Nat.le_of_ble_eq_true rfl) (Nat.le_of_ble_eq_true rfl) ?_
  refine W.eq (g2 := F0 m 4 ls []) rfl ?_
  refine lv_aload_n hx hb (okX3_init (4, .aload_n 0, 1) (List.mem_of_getElem? (i := 2) rfl)) rfl (lv_at hl 0 rfl) ?_
  refine sk_new (n := 48) (ci := 7) S hK hw hS (fun x q h => hB x q (by omega)) (C := RX7) (T := TX7) (N := 1) rfl hI7 tyX7 tyX7_ok ⟨by decide +kernel, rfl, by decide⟩ (by decide) hL3 hL4 hL5 ⟨Nat.le_of_ble_eq_true rfl, Nat.le_of_ble_eq_true rfl⟩ (okX3_init (5, .new 9, 3) (List.mem_of_getElem? (i := 3) rfl)) (fun H hw hS => ?_)
  refine lv_dup hx hb (okX3_init (8, .dup, 1) (List.mem_of_getElem? (i := 4) rfl)) rfl ?_
  refine lv_bipush (v := iI 100) hx hb (okX3_init (9, .bipush 100, 2) (List.mem_of_getElem? (i := 5) rfl)) (by decide +kernel) ?_
  refine cU_cv (va_runI (As := [.int (iI 100)]) (rest := [.ref (sk_ad G 48), .ref (sk_ad G 47)]) S (c_Row_init l G (a := 48) (n := 49) (by decide +kernel) rfl (fun x q h => hB x q (by omega)) 100 (by decide +kernel) (by decide) 100 rfl (by decide)) (cwI 1 hts gX3_init_X7_init rfl rfl rfl hL5 hL6 hL7 rfl (by decide +kernel) ⟨Nat.le_of_ble_eq_true rfl, Nat.le_of_ble_eq_true rfl⟩) ⟨cU_blind, cU_pre hK hw⟩ rfl rfl hl.1 rfl (lv_room (Nat.le_of_ble_eq_true rfl)) (okX3_init (11, .invokespecial 11, 3) (List.mem_of_getElem? (i := 6) rfl)) ⟨Nat.le_of_ble_eq_true rfl, Nat.le_of_ble_eq_true rfl⟩) hS (fun H locs hw hS => ?_)
  refine sk_putr (b := 48) S hK hw hS kdn_47 (by omega) (T := TX3) (N := 6) rfl hI3 tyX3 tyX3_ok nmX3 0 ⟨by decide, rfl, by decide, rfl, rfl⟩ rfl rfl hin (k' := 0) rfl (by decide +kernel) (fun _ => ⟨rfl, rfl⟩) hL8 (okX3_init (14, .putfield 14, 3) (List.mem_of_getElem? (i := 7) rfl)) (fun H locs hw hS => ?_)
  refine lv_aload_n hx hb (okX3_init (17, .aload_n 0, 1) (List.mem_of_getElem? (i := 8) rfl)) rfl (lv_at hl 0 rfl) ?_
  refine sk_new (n := 50) (ci := 7) S hK hw hS (fun x q h => (uB_o (by omega)).trans ((bx_o (by omega)).trans (hB x q (by omega)))) (C := RX7) (T := TX7) (N := 1) rfl hI7 tyX7 tyX7_ok ⟨by decide +kernel, rfl, by decide⟩ (by decide) hL3 hL4 hL5 ⟨Nat.le_of_ble_eq_true rfl, Nat.le_of_ble_eq_true rfl⟩ (okX3_init (18, .new 9, 3) (List.mem_of_getElem? (i := 9) rfl)) (fun H hw hS => ?_)
  refine lv_dup hx hb (okX3_init (21, .dup, 1) (List.mem_of_getElem? (i := 10) rfl)) rfl ?_
  refine lv_bipush (v := iI 6) hx hb (okX3_init (22, .bipush 6, 2) (List.mem_of_getElem? (i := 11) rfl)) (by decide +kernel) ?_
  refine cU_cv (va_runI (As := [.int (iI 6)]) (rest := [.ref (sk_ad G 50), .ref (sk_ad G 47)]) S (c_Row_init l G (a := 50) (n := 51) (by decide +kernel) rfl (fun x q h => (uB_o (by omega)).trans ((bx_o (by omega)).trans (hB x q (by omega)))) 6 (by decide +kernel) (by decide) 6 rfl (by decide)) (cwI 1 hts gX3_init_X7_init rfl rfl rfl hL5 hL6 hL7 rfl (by decide +kernel) ⟨Nat.le_of_ble_eq_true rfl, Nat.le_of_ble_eq_true rfl⟩) ⟨cU_blind, cU_pre hK hw⟩ rfl rfl hl.1 rfl (lv_room (Nat.le_of_ble_eq_true rfl)) (okX3_init (24, .invokespecial 11, 3) (List.mem_of_getElem? (i := 12) rfl)) ⟨Nat.le_of_ble_eq_true rfl, Nat.le_of_ble_eq_true rfl⟩) hS (fun H locs hw hS => ?_)
  refine sk_putr (b := 50) S hK hw hS kdn_47 (by omega) (T := TX3) (N := 6) rfl hI3 tyX3 tyX3_ok nmX3 1 ⟨by decide, rfl, by decide, rfl, rfl⟩ rfl rfl hin (k' := 1) rfl (by decide +kernel) (fun _ => ⟨rfl, rfl⟩) hL9 (okX3_init (27, .putfield 20, 3) (List.mem_of_getElem? (i := 13) rfl)) (fun H locs hw hS => ?_)
  refine lv_aload_n hx hb (okX3_init (30, .aload_n 0, 1) (List.mem_of_getElem? (i := 14) rfl)) rfl (lv_at hl 0 rfl) ?_
  refine sk_new (n := 52) (ci := 7) S hK hw hS (fun x q h => (uB_o (by omega)).trans ((bx_o (by omega)).trans ((uB_o (by omega)).trans ((bx_o (by omega)).trans (hB x q (by omega)))))) (C := RX7) (T := TX7) (N := 1) rfl hI7 tyX7 tyX7_ok ⟨by decide +kernel, rfl, by decide⟩ (by decide) hL3 hL4 hL5 ⟨Nat.le_of_ble_eq_true rfl, Nat.le_of_ble_eq_true rfl⟩ (okX3_init (31, .new 9, 3) (List.mem_of_getElem? (i := 15) rfl)) (fun H hw hS => ?_)
  refine lv_dup hx hb (okX3_init (34, .dup, 1) (List.mem_of_getElem? (i := 16) rfl)) rfl ?_
  refine lv_bipush (v := iI 6) hx hb (okX3_init (35, .bipush 6, 2) (List.mem_of_getElem? (i := 17) rfl)) (by decide +kernel) ?_
  refine cU_cv (va_runI (As := [.int (iI 6)]) (rest := [.ref (sk_ad G 52), .ref (sk_ad G 47)]) S (c_Row_init l G (a := 52) (n := 53) (by decide +kernel) rfl (fun x q h => (uB_o (by omega)).trans ((bx_o (by omega)).trans ((uB_o (by omega)).trans ((bx_o (by omega)).trans (hB x q (by omega)))))) 6 (by decide +kernel) (by decide) 6 rfl (by decide)) (cwI 1 hts gX3_init_X7_init rfl rfl rfl hL5 hL6 hL7 rfl (by decide +kernel) ⟨Nat.le_of_ble_eq_true rfl, Nat.le_of_ble_eq_true rfl⟩) ⟨cU_blind, cU_pre hK hw⟩ rfl rfl hl.1 rfl (lv_room (Nat.le_of_ble_eq_true rfl)) (okX3_init (37, .invokespecial 11, 3) (List.mem_of_getElem? (i := 18) rfl)) ⟨Nat.le_of_ble_eq_true rfl, Nat.le_of_ble_eq_true rfl⟩) hS (fun H locs hw hS => ?_)
  refine sk_putr (b := 52) S hK hw hS kdn_47 (by omega) (T := TX3) (N := 6) rfl hI3 tyX3 tyX3_ok nmX3 2 ⟨by decide, rfl, by decide, rfl, rfl⟩ rfl rfl hin (k' := 2) rfl (by decide +kernel) (fun _ => ⟨rfl, rfl⟩) hL10 (okX3_init (40, .putfield 23, 3) (List.mem_of_getElem? (i := 19) rfl)) (fun H locs hw hS => ?_)
  refine lv_aload_n hx hb (okX3_init (43, .aload_n 0, 1) (List.mem_of_getElem? (i := 20) rfl)) rfl (lv_at hl 0 rfl) ?_
  refine lv_iconst (v := iI 0) hx hb (okX3_init (44, .iconst 0, 1) (List.mem_of_getElem? (i := 21) rfl)) rfl ?_
  refine sk_put S hK ⟨hw, hS⟩ kdn_47 (by omega) (C := RX3) (T := TX3) (N := 6) rfl hI3 tyX3 tyX3_ok nmX3 3 ⟨by decide, rfl, by decide, rfl⟩ rfl rfl (k' := 3) rfl (by decide) ⟨rfl, rfl⟩ hL11 (okX3_init (45, .putfield 26, 3) (List.mem_of_getElem? (i := 22) rfl)) (fun H locs hwp => ?_)
  have hS := hwp.2
  have hw := cw.put hwp.1 (by decide +kernel) (fun j hj i hi => by unfold isrs; rw [hi, kdn_47]; rw [show j = 3 by omega]; rfl)
  refine lv_aload_n hx hb (okX3_init (48, .aload_n 0, 1) (List.mem_of_getElem? (i := 23) rfl)) rfl (lv_at hl 0 rfl) ?_
  refine lv_iconst (v := iI 0) hx hb (okX3_init (49, .iconst 0, 1) (List.mem_of_getElem? (i := 24) rfl)) rfl ?_
  refine sk_put S hK ⟨hw, hS⟩ kdn_47 (by omega) (C := RX3) (T := TX3) (N := 6) rfl hI3 tyX3 tyX3_ok nmX3 4 ⟨by decide, rfl, by decide, rfl⟩ rfl rfl (k' := 4) rfl (by decide) ⟨rfl, rfl⟩ hL12 (okX3_init (50, .putfield 30, 3) (List.mem_of_getElem? (i := 25) rfl)) (fun H locs hwp => ?_)
  have hS := hwp.2
  have hw := cw.put hwp.1 (by decide +kernel) (fun j hj i hi => by unfold isrs; rw [hi, kdn_47]; rw [show j = 4 by omega]; rfl)
  refine lv_aload_n hx hb (okX3_init (53, .aload_n 0, 1) (List.mem_of_getElem? (i := 26) rfl)) rfl (lv_at hl 0 rfl) ?_
  refine lv_iconst (v := iI 0) hx hb (okX3_init (54, .iconst 0, 1) (List.mem_of_getElem? (i := 27) rfl)) rfl ?_
  refine sk_put S hK ⟨hw, hS⟩ kdn_47 (by omega) (C := RX3) (T := TX3) (N := 6) rfl hI3 tyX3 tyX3_ok nmX3 5 ⟨by decide, rfl, by decide, rfl⟩ rfl rfl (k' := 5) rfl (by decide) ⟨rfl, rfl⟩ hL13 (okX3_init (55, .putfield 33, 3) (List.mem_of_getElem? (i := 28) rfl)) (fun H locs hwp => ?_)
  have hS := hwp.2
  have hw := cw.put hwp.1 (by decide +kernel) (fun j hj i hi => by unfold isrs; rw [hi, kdn_47]; rw [show j = 5 by omega]; rfl)
  have hfin : cw G (54) (bx B 47 54) H := by
    have hother : ∀ i : Nat, (i : Int) < 54 → (i : Int) ≠ 47 → ∀ q : Int, (i : Int) ≠ 49 → (i : Int) ≠ 51 → (i : Int) ≠ 53 → (uB (uB (uB (uB (bx (uB (bx (uB (bx (B) 48 (48 + 1)) 47 0) 50 (50 + 1)) 47 1) 52 (52 + 1)) 47 2) 47 3) 47 4) 47 5) i q = bx B 47 54 i q := by
      intro i hi e q e0 e1 e2 
      by_cases e9 : (i : Int) < 47
      · exact ((uB_o (by omega)).trans ((uB_o (by omega)).trans ((uB_o (by omega)).trans ((uB_o (by omega)).trans ((bx_o (by omega)).trans ((uB_o (by omega)).trans ((bx_o (by omega)).trans ((uB_o (by omega)).trans ((bx_o (by omega)).trans (rfl)))))))))).trans (bx_o (by omega)).symm
      · rcases (by omega : (48 ≤ (i : Int) ∧ (i : Int) < 48 + 1) ∨ (50 ≤ (i : Int) ∧ (i : Int) < 50 + 1) ∨ (52 ≤ (i : Int) ∧ (i : Int) < 52 + 1)) with h | h | h
        · exact (uB_m (uB_m (uB_m (uB_m (bx_m (uB_m (bx_m (uB_m (bx_h (by omega)))))))))).trans (bx_h (by omega)).symm
        · exact (uB_m (uB_m (uB_m (uB_m (bx_m (uB_m (bx_h (by omega)))))))).trans (bx_h (by omega)).symm
        · exact (uB_m (uB_m (uB_m (uB_m (bx_h (by omega)))))).trans (bx_h (by omega)).symm
    refine hw.cong (fun i hi q hq => ?_) (fun i hi q => ?_)
    · by_cases e : (i : Int) = 47
      · unfold isrs at hq; rw [e, kdn_47] at hq
        rw [e]
        rcases isr_3 q hq with h | h | h
        · subst h; exact (uB_m (uB_m (uB_m (uB_m (bx_m (uB_m (bx_m (uB_h rfl rfl)))))))).trans (bx_h (by omega)).symm
        · subst h; exact (uB_m (uB_m (uB_m (uB_m (bx_m (uB_h rfl rfl)))))).trans (bx_h (by omega)).symm
        · subst h; exact (uB_m (uB_m (uB_m (uB_h rfl rfl)))).trans (bx_h (by omega)).symm
      · by_cases e0 : (i : Int) = 49
        · unfold isrs at hq; rw [e0, kdn_49] at hq; simp at hq
        · by_cases e1 : (i : Int) = 51
          · unfold isrs at hq; rw [e1, kdn_51] at hq; simp at hq
          · by_cases e2 : (i : Int) = 53
            · unfold isrs at hq; rw [e2, kdn_53] at hq; simp at hq
            · exact hother i (by omega) e q e0 e1 e2
    · by_cases e : (i : Int) = 47
      · right; unfold I0; rw [e, kdn_47]; try rfl
      · by_cases e0 : (i : Int) = 49
        · right; unfold I0; rw [e0, kdn_49]; simp only []; rw [if_neg (by omega)]
        · by_cases e1 : (i : Int) = 51
          · right; unfold I0; rw [e1, kdn_51]; simp only []; rw [if_neg (by omega)]
          · by_cases e2 : (i : Int) = 53
            · right; unfold I0; rw [e2, kdn_53]; simp only []; rw [if_neg (by omega)]
            · left; exact hother i (by omega) e q e0 e1 e2
  refine W.widen (k := 6) (n := 115) (by decide) (by decide) ?_
  exact cU_ret hx hb hr0 hlocks hK hfin hS (okX3_init (58, .return_, 1) (List.mem_of_getElem? (i := 29) rfl))
set_option maxHeartbeats 4000000 in
set_option maxRecDepth 100000 in
theorem c_Show_init (l : Launch) (G : sk_G) {B : Int → Int → Bool} (hB : ∀ x k, ((55 : Nat) : Int) ≤ x → B x k = false) : Met l yX9_init wsX9_init ({ frames := 4, cells := 94, slots := 2272, locals := 73 }) (va_Pc [.ref (sk_ad G 54)] (cU G 55 B)) (cQ G 149 (bx B 54 149)) 94 2272 (sk_A G) := by
  refine Met.ofW (cc := cX9_init) (maxL := 2) (ret := none) (by decide) rfl ?_
  intro p e s m args below meth c s₁ B9 hml hv
  obtain ⟨rfl, hU, hK⟩ := hv
  have hx := B9.exec
  have hb := B9.bytes
  have hr0 := B9.returns
  have hts := atoms_spec (ws := wsX9_init) B9.pre
  have hown : s.vm.findClass RX9 = some m.cls := findClass_of_methodNamed B9.named
  have hlocks := B9.notSynchronized
  have hin : meth.name = "<init>" := (name_of_methodNamed B9.named B9.method).1
  have S : CallFix p m c cX9_init 2 s ([.ref (sk_ad G 54)].toArray) wsX9_init RX9 := ⟨hx, hb, hml, hown, hts⟩
  have hL0 := hts (.methodLink RX9 3 objectInit) (by decide +kernel)
  have hL1 := hts (.instanceMethod objectInit) (by decide +kernel)
  have hL2 := hts (.code objectInit ⟨#[0xb1]⟩ 1 none) (by decide +kernel)
  have hL3 := hts (.classLink RX9 9 RX8) (by decide +kernel)
  have hL4 := hts (.fieldLink RX9 11 "SkyLights$Show" "scenes" "[LSkyLights$Scene;") (by decide +kernel)
  have hL5 := hts (.instantiable RX8 5) (by decide +kernel)
  have hL6 := hts (.initialized RX8) (by decide +kernel)
  have hL7 := hts (.instanceMethod yX8_init) (by decide +kernel)
  have hL8 := hts (.fieldLink RX9 18 "SkyLights$Show" "nothing" "LSkyLights$Scene;") (by decide +kernel)
  have hL9 := hts (.classLink RX9 22 RX7) (by decide +kernel)
  have hL10 := hts (.instantiable RX7 1) (by decide +kernel)
  have hL11 := hts (.initialized RX7) (by decide +kernel)
  have hL12 := hts (.methodLink RX9 24 yX7_init) (by decide +kernel)
  have hL13 := hts (.instanceMethod yX7_init) (by decide +kernel)
  have hL14 := hts (.fieldLink RX9 27 "SkyLights$Show" "charges" "LSkyLights$Row;") (by decide +kernel)
  have hL15 := hts (.fieldLink RX9 31 "SkyLights$Show" "size" "I") (by decide +kernel)
  have hL16 := hts (.fieldLink RX9 35 "SkyLights$Show" "margin" "I") (by decide +kernel)
  have hI7 : ∀ w ∈ u_ws RX7 TX7 1, w ∈ wsX9_init := by decide +kernel
  have hI8 : ∀ w ∈ u_ws RX8 TX8 5, w ∈ wsX9_init := by decide +kernel
  have hI9 : ∀ w ∈ u_ws RX9 TX9 5, w ∈ wsX9_init := by decide +kernel
  have hS : va_S (sk_A G) s.heap s.heap [] := va_S.rf
  have hw := hU
  have hl := lv_entry ([.ref (sk_ad G 54)]) (n := 2) (Nat.le_of_ble_eq_true rfl)
  rw [lg_entry_eq]
  generalize (lg_sl ([.ref (sk_ad G 54)]) ++ List.replicate (2 - (lg_sl ([.ref (sk_ad G 54)])).length) Slot.unset).toArray = ls at hl ⊢
  have hl : lv_has ls 2 [(0, .ref (sk_ad G 54))] := hl
  obtain ⟨BL, hBL⟩ : ∃ BL : Nat → Int → Int → Bool, ∀ (i : Nat) (x j : Int), BL i x j = if (65 ≤ x ∧ x < 65 + 7 * (i : Int)) ∨ (x = 55 ∧ 0 ≤ j ∧ j < i) then true else (uB (uB (uB (bx (uB (bx (uB (B) 54 0) 56 63) 54 1) 63 (63 + 1)) 54 2) 54 3) 54 4) x j := ⟨_, fun _ _ _ => rfl⟩
  have BL_m : ∀ {i : Nat} {x j : Int}, (uB (uB (uB (bx (uB (bx (uB (B) 54 0) 56 63) 54 1) 63 (63 + 1)) 54 2) 54 3) 54 4) x j = true → BL i x j = true := fun h => by rw [hBL]; split; rfl; exact h
  have BL_h : ∀ {i : Nat} {x j : Int}, ((65 ≤ x ∧ x < 65 + 7 * (i : Int)) ∨ (x = 55 ∧ 0 ≤ j ∧ j < i)) → BL i x j = true := fun h => by rw [hBL, if_pos h]
  have BL_o : ∀ {i : Nat} {x j : Int}, ¬ (65 ≤ x ∧ x < 65 + 7 * (i : Int)) → x ≠ 55 → BL i x j = (uB (uB (uB (bx (uB (bx (uB (B) 54 0) 56 63) 54 1) 63 (63 + 1)) 54 2) 54 3) 54 4) x j := fun h h2 => by rw [hBL, if_neg (fun q => q.elim h (fun q => h2 q.1))]
  have loop : ∀ (r i : Nat), i + r = 12 → ∀ (cells slots : Nat) (H : Heap) (locs : List Loc) (ls : Array Slot), cells + 7 * r ≤ 94 → slots + 173 * r ≤ 2272 → cw G (65 + 7 * i) (BL i) H → va_S (sk_A G) s.heap H locs → lv_has ls 2 [(1, .int (iI (i : Int))), (0, .ref (sk_ad G 54))] → W p l e (headSpec wsX9_init ({ frames := 4, cells := 94, slots := 2272, locals := 73 })).room s m ([.ref (sk_ad G 54)].toArray) below meth c H locs cells slots (MQ below (cQ G 149 (bx B 54 149)) ([.ref (sk_ad G 54)].toArray) s 94 2272 (sk_A G)) (F0 m 50 ls []) := by
    intro r
    induction r with
    | zero =>
      intro i hi cells slots H locs ls hc1 hs1 hw hS hl
      refine lv_iload_n hx hb (okX9_init (50, .iload_n 1, 1) (List.mem_of_getElem? (i := 25) rfl)) rfl (lv_at hl 0 rfl) ?_
      refine lv_aload_n hx hb (okX9_init (51, .aload_n 0, 1) (List.mem_of_getElem? (i := 26) rfl)) rfl (lv_at hl 1 rfl) ?_
      refine sk_getr (b := 55) S hK ⟨hw, hS⟩ kdn_54 (by omega) (C := RX9) (T := TX9) (N := 5) rfl hI9 0 ⟨by decide, rfl, by decide, rfl⟩ rfl (k' := 0) rfl (BL_m (uB_m (uB_m (uB_m (bx_m (uB_m (bx_m (uB_h rfl rfl)))))))) (by decide +kernel) hL4 (okX9_init (52, .getfield 11, 3) (List.mem_of_getElem? (i := 27) rfl)) ?_
      refine sk_len S hK ⟨hw, hS⟩ (Or.inr (Or.inr kdn_55)) (by omega) (okX9_init (55, .arraylength, 1) (List.mem_of_getElem? (i := 28) rfl)) ?_
      rw [lnn_55]
      refine sk_icmp_ge (tgt := 78) hx hb ⟨by omega, by omega⟩ (by decide) (okX9_init (56, .if_icmp .ge 22, 3) (List.mem_of_getElem? (i := 29) rfl)) (by decide) (fun c9 => ?_) (fun c9 => absurd c9 (by omega))
      obtain rfl : i = 12 := by omega
      have hfin : cw G 149 (bx B 54 149) H := by
        have hother : ∀ i : Nat, (i : Int) < 149 → (i : Int) ≠ 54 → ∀ q : Int, (i : Int) ≠ 64 → (i : Int) ≠ 55 → (BL 12) i q = bx B 54 149 i q := by
          intro i hi e q e0 ea
          by_cases e9 : (i : Int) < 54
          · exact ((BL_o (by omega) (by omega)).trans ((uB_o (by omega)).trans ((uB_o (by omega)).trans ((uB_o (by omega)).trans ((bx_o (by omega)).trans ((uB_o (by omega)).trans ((bx_o (by omega)).trans ((uB_o (by omega)).trans (rfl))))))))).trans (bx_o (by omega)).symm
          · rcases (by omega : (56 ≤ (i : Int) ∧ (i : Int) < 63) ∨ (63 ≤ (i : Int) ∧ (i : Int) < 63 + 1) ∨ ((65 ≤ (i : Int) ∧ (i : Int) < 149))) with h | h | h
            · exact (BL_m (uB_m (uB_m (uB_m (bx_m (uB_m (bx_h (by omega)))))))).trans (bx_h (by omega)).symm
            · exact (BL_m (uB_m (uB_m (uB_m (bx_h (by omega)))))).trans (bx_h (by omega)).symm
            · exact (BL_h (by omega)).trans (bx_h (by omega)).symm
        refine hw.cong (fun i hi q hq => ?_) (fun i hi q => ?_)
        · by_cases e : (i : Int) = 54
          · unfold isrs at hq; rw [e, kdn_54] at hq
            rw [e]
            rcases isr_9 q hq with h | h | h
            · subst h; exact (BL_m (uB_m (uB_m (uB_m (bx_m (uB_m (bx_m (uB_h rfl rfl)))))))).trans (bx_h (by omega)).symm
            · subst h; exact (BL_m (uB_m (uB_m (uB_m (bx_m (uB_h rfl rfl)))))).trans (bx_h (by omega)).symm
            · subst h; exact (BL_m (uB_m (uB_m (uB_h rfl rfl)))).trans (bx_h (by omega)).symm
          · by_cases ea : (i : Int) = 55
            · unfold isrs at hq; rw [ea, kdn_55, lnn_55] at hq
              have hq2 : q < 12 := by simpa using hq
              exact (BL_h (by omega)).trans (bx_h (by omega)).symm
            · by_cases e0 : (i : Int) = 64
              · unfold isrs at hq; rw [e0, kdn_64] at hq; simp at hq
              · exact hother i (by omega) e q e0 ea
        · by_cases e : (i : Int) = 54
          · by_cases e2 : q = 4
            · left; rw [e, e2]; exact (BL_m (uB_h rfl rfl)).trans (bx_h (by omega)).symm
            · right; unfold I0; rw [e, kdn_54]; simp only []; (repeat' rw [if_neg (by omega)])
          · by_cases ea : (i : Int) = 55
            · right; unfold I0; rw [ea, kdn_55]; try rfl
            · by_cases e0 : (i : Int) = 64
              · right; unfold I0; rw [e0, kdn_64]; simp only []; rw [if_neg (by omega)]
              · left; exact hother i (by omega) e q e0 ea
      refine W.widen (k := 94) (n := 2272) (by omega) (by omega) ?_
      exact cU_ret hx hb hr0 hlocks hK hfin hS (okX9_init (78, .return_, 1) (List.mem_of_getElem? (i := 39) rfl))
    | succ r ih =>
      intro i hi cells slots H locs ls hc1 hs1 hw hS hl
      refine lv_iload_n hx hb (okX9_init (50, .iload_n 1, 1) (List.mem_of_getElem? (i := 25) rfl)) rfl (lv_at hl 0 rfl) ?_
      refine lv_aload_n hx hb (okX9_init (51, .aload_n 0, 1) (List.mem_of_getElem? (i := 26) rfl)) rfl (lv_at hl 1 rfl) ?_
      refine sk_getr (b := 55) S hK ⟨hw, hS⟩ kdn_54 (by omega) (C := RX9) (T := TX9) (N := 5) rfl hI9 0 ⟨by decide, rfl, by decide, rfl⟩ rfl (k' := 0) rfl (BL_m (uB_m (uB_m (uB_m (bx_m (uB_m (bx_m (uB_h rfl rfl)))))))) (by decide +kernel) hL4 (okX9_init (52, .getfield 11, 3) (List.mem_of_getElem? (i := 27) rfl)) ?_
      refine sk_len S hK ⟨hw, hS⟩ (Or.inr (Or.inr kdn_55)) (by omega) (okX9_init (55, .arraylength, 1) (List.mem_of_getElem? (i := 28) rfl)) ?_
      rw [lnn_55]
      refine sk_icmp_ge (tgt := 78) hx hb ⟨by omega, by omega⟩ (by decide) (okX9_init (56, .if_icmp .ge 22, 3) (List.mem_of_getElem? (i := 29) rfl)) (by decide) (fun c9 => absurd c9 (by omega)) (fun c9 => ?_)
      refine lv_aload_n hx hb (okX9_init (59, .aload_n 0, 1) (List.mem_of_getElem? (i := 30) rfl)) rfl (lv_at hl 1 rfl) ?_
      refine sk_getr (b := 55) S hK ⟨hw, hS⟩ kdn_54 (by omega) (C := RX9) (T := TX9) (N := 5) rfl hI9 0 ⟨by decide, rfl, by decide, rfl⟩ rfl (k' := 0) rfl (BL_m (uB_m (uB_m (uB_m (bx_m (uB_m (bx_m (uB_h rfl rfl)))))))) (by decide +kernel) hL4 (okX9_init (60, .getfield 11, 3) (List.mem_of_getElem? (i := 31) rfl)) ?_
      refine lv_iload_n hx hb (okX9_init (63, .iload_n 1, 1) (List.mem_of_getElem? (i := 32) rfl)) rfl (lv_at hl 0 rfl) ?_
      refine sk_new (n := 65 + 7 * i) (ci := 8) S hK hw hS (fun x q h => (BL_o (by omega) (by omega)).trans ((uB_o (by omega)).trans ((uB_o (by omega)).trans ((uB_o (by omega)).trans ((bx_o (by omega)).trans ((uB_o (by omega)).trans ((bx_o (by omega)).trans ((uB_o (by omega)).trans (hB x q (by omega)))))))))) (C := RX8) (T := TX8) (N := 5) rfl hI8 tyX8 tyX8_ok ⟨(by rw [show ((65 + 7 * i : Nat) : Int) = 65 + 7 * (i : Int) by omega]; exact kd_scn ⟨by omega, by omega⟩), rfl, by decide⟩ (by decide) hL3 hL5 hL6 ⟨by show cells + 1 ≤ 94; omega, by show slots + 5 ≤ 2272; omega⟩ (okX9_init (64, .new 9, 3) (List.mem_of_getElem? (i := 33) rfl)) (fun H hw hS => ?_)
      refine lv_dup hx hb (okX9_init (67, .dup, 1) (List.mem_of_getElem? (i := 34) rfl)) rfl ?_
      refine cU_cv (va_runIN (As := []) (rest := [.ref (sk_ad G ((65 + 7 * i : Nat) : Int)), .int (iI (i : Int)), .ref (sk_ad G 55)]) S (c_Scene_init l G (a := ((65 + 7 * i : Nat) : Int)) (n := 65 + 7 * i + 1) (by rw [show ((65 + 7 * i : Nat) : Int) = 65 + 7 * (i : Int) by omega]; exact kd_scn ⟨by omega, by omega⟩) (by omega) (fun x q h => (BL_o (by omega) (by omega)).trans ((uB_o (by omega)).trans ((uB_o (by omega)).trans ((uB_o (by omega)).trans ((bx_o (by omega)).trans ((uB_o (by omega)).trans ((bx_o (by omega)).trans ((uB_o (by omega)).trans (hB x q (by omega))))))))))) ⟨va_cnB 0 hts gX9_init_X8_init_n17 rfl rfl rfl (hK.2.2.1 ("SkyLights$Show", 17, yX8_init) (by decide +kernel)) hL6 (by decide +kernel) ⟨Nat.le_of_ble_eq_true rfl, Nat.le_of_ble_eq_true rfl⟩, rfl, hL7⟩ ⟨cU_blind, cU_pre hK hw⟩ rfl rfl hl.1 rfl (lv_room (Nat.le_of_ble_eq_true rfl)) (okX9_init (68, .invokespecial 17, 3) (List.mem_of_getElem? (i := 35) rfl)) ⟨by show cells + 1 + 6 ≤ 94; omega, by show slots + 5 + 168 ≤ 2272; omega⟩) hS (fun H locs hw hS => ?_)
      refine sk_ast S hK hw hS (Or.inr ⟨kdn_55, (by rw [show ((65 + 7 * i : Nat) : Int) = 65 + 7 * (i : Int) by omega]; exact kd_scn ⟨by omega, by omega⟩)⟩) (by omega) (by omega) (by rw [lnn_55]; omega) (by rw [rf15]; omega) (okX9_init (71, .aastore, 1) (List.mem_of_getElem? (i := 36) rfl)) (fun H locs hw hS => ?_)
      refine lv_iinc (v := iI ((i : Int) + 1)) (lv' := [(1, .int (iI ((i : Int) + 1))), (0, .ref (sk_ad G 54))]) hx hb (okX9_init (72, .iinc 1 1, 3) (List.mem_of_getElem? (i := 37) rfl)) hl (k := 0) rfl (iI_add _ _) (by decide) rfl (fun ls hl => ?_)
      refine lv_goto (tgt := 50) hx hb (okX9_init (75, .goto (-25), 3) (List.mem_of_getElem? (i := 38) rfl)) (by decide) ?_
      have e9 : uB (bx (BL i) ((65 + 7 * i : Nat) : Int) ((65 + 7 * i + 1 + 6 : Nat) : Int)) 55 (i : Int) = BL (i + 1) := by
        funext x j
        simp only [uB, bx, hBL]; (repeat' split) <;> first | rfl | (exfalso; omega)
      have hw : cw G (65 + 7 * i + 1 + 6) (BL (i + 1)) H := by rw [← e9]; exact hw
      exact ih (i + 1) (by omega) _ _ H locs ls (by omega) (by omega) (by rw [show 65 + 7 * (i + 1) = 65 + 7 * i + 1 + 6 by omega]; exact hw) hS (by rw [show ((i + 1 : Nat) : Int) = (i : Int) + 1 by omega]; exact hl)
  refine lv_aload_n hx hb (okX9_init (0, .aload_n 0, 1) (List.mem_of_getElem? (i := 0) rfl)) rfl (lv_at hl 0 rfl) ?_
  refine W.objInit hx hb hown hL0 hL1 hL2 rfl (by rw [hml]; exact hl.1) rfl (okX9_init (1, .invokespecial 3, 3) (List.mem_of_getElem? (i := 1) rfl)) (Nat.le_of_ble_eq_true rfl) (Nat.le_of_ble_eq_true rfl) ?_
  refine W.eq (g2 := F0 m 4 ls []) rfl ?_
  refine lv_aload_n hx hb (okX9_init (4, .aload_n 0, 1) (List.mem_of_getElem? (i := 2) rfl)) rfl (lv_at hl 0 rfl) ?_
  refine lv_bipush (v := iI 12) hx hb (okX9_init (5, .bipush 12, 2) (List.mem_of_getElem? (i := 3) rfl)) (by decide +kernel) ?_
  refine sk_newR (n := 55) (N := 12) (C := RX8) S hK hw hS (fun x q h => hB x q (by omega)) (Or.inr ⟨by decide +kernel, rfl⟩) (by decide +kernel) (by decide) hL3 ⟨Nat.le_of_ble_eq_true rfl, Nat.le_of_ble_eq_true rfl⟩ (okX9_init (7, .anewarray 9, 3) (List.mem_of_getElem? (i := 4) rfl)) (fun H hw hS => ?_)
  refine sk_putr (b := 55) S hK hw hS kdn_54 (by omega) (T := TX9) (N := 5) rfl hI9 tyX9 tyX9_ok nmX9 0 ⟨by decide, rfl, by decide, rfl, rfl⟩ rfl rfl hin (k' := 0) rfl (by decide +kernel) (fun _ => ⟨rfl, rfl⟩) hL4 (okX9_init (10, .putfield 11, 3) (List.mem_of_getElem? (i := 5) rfl)) (fun H locs hw hS => ?_)
  refine lv_aload_n hx hb (okX9_init (13, .aload_n 0, 1) (List.mem_of_getElem? (i := 6) rfl)) rfl (lv_at hl 0 rfl) ?_
  refine sk_new (n := 56) (ci := 8) S hK hw hS (fun x q h => (uB_o (by omega)).trans (hB x q (by omega))) (C := RX8) (T := TX8) (N := 5) rfl hI8 tyX8 tyX8_ok ⟨by decide +kernel, rfl, by decide⟩ (by decide) hL3 hL5 hL6 ⟨Nat.le_of_ble_eq_true rfl, Nat.le_of_ble_eq_true rfl⟩ (okX9_init (14, .new 9, 3) (List.mem_of_getElem? (i := 7) rfl)) (fun H hw hS => ?_)
  refine lv_dup hx hb (okX9_init (17, .dup, 1) (List.mem_of_getElem? (i := 8) rfl)) rfl ?_
  refine cU_cv (va_runIN (As := []) (rest := [.ref (sk_ad G 56), .ref (sk_ad G 54)]) S (c_Scene_init l G (a := 56) (n := 57) (by decide +kernel) rfl (fun x q h => (uB_o (by omega)).trans (hB x q (by omega)))) ⟨va_cnB 0 hts gX9_init_X8_init_n17 rfl rfl rfl (hK.2.2.1 ("SkyLights$Show", 17, yX8_init) (by decide +kernel)) hL6 (by decide +kernel) ⟨Nat.le_of_ble_eq_true rfl, Nat.le_of_ble_eq_true rfl⟩, rfl, hL7⟩ ⟨cU_blind, cU_pre hK hw⟩ rfl rfl hl.1 rfl (lv_room (Nat.le_of_ble_eq_true rfl)) (okX9_init (18, .invokespecial 17, 3) (List.mem_of_getElem? (i := 9) rfl)) ⟨Nat.le_of_ble_eq_true rfl, Nat.le_of_ble_eq_true rfl⟩) hS (fun H locs hw hS => ?_)
  refine sk_putr (b := 56) S hK hw hS kdn_54 (by omega) (T := TX9) (N := 5) rfl hI9 tyX9 tyX9_ok nmX9 1 ⟨by decide, rfl, by decide, rfl, rfl⟩ rfl rfl hin (k' := 1) rfl (by decide +kernel) (fun _ => ⟨rfl, rfl⟩) hL8 (okX9_init (21, .putfield 18, 3) (List.mem_of_getElem? (i := 10) rfl)) (fun H locs hw hS => ?_)
  refine lv_aload_n hx hb (okX9_init (24, .aload_n 0, 1) (List.mem_of_getElem? (i := 11) rfl)) rfl (lv_at hl 0 rfl) ?_
  refine sk_new (n := 63) (ci := 7) S hK hw hS (fun x q h => (uB_o (by omega)).trans ((bx_o (by omega)).trans ((uB_o (by omega)).trans (hB x q (by omega))))) (C := RX7) (T := TX7) (N := 1) rfl hI7 tyX7 tyX7_ok ⟨by decide +kernel, rfl, by decide⟩ (by decide) hL9 hL10 hL11 ⟨Nat.le_of_ble_eq_true rfl, Nat.le_of_ble_eq_true rfl⟩ (okX9_init (25, .new 22, 3) (List.mem_of_getElem? (i := 12) rfl)) (fun H hw hS => ?_)
  refine lv_dup hx hb (okX9_init (28, .dup, 1) (List.mem_of_getElem? (i := 13) rfl)) rfl ?_
  refine lv_bipush (v := iI 10) hx hb (okX9_init (29, .bipush 10, 2) (List.mem_of_getElem? (i := 14) rfl)) (by decide +kernel) ?_
  refine cU_cv (va_runI (As := [.int (iI 10)]) (rest := [.ref (sk_ad G 63), .ref (sk_ad G 54)]) S (c_Row_init l G (a := 63) (n := 64) (by decide +kernel) rfl (fun x q h => (uB_o (by omega)).trans ((bx_o (by omega)).trans ((uB_o (by omega)).trans (hB x q (by omega))))) 10 (by decide +kernel) (by decide) 10 rfl (by decide)) (cwI 1 hts gX9_init_X7_init rfl rfl rfl hL11 hL12 hL13 rfl (by decide +kernel) ⟨Nat.le_of_ble_eq_true rfl, Nat.le_of_ble_eq_true rfl⟩) ⟨cU_blind, cU_pre hK hw⟩ rfl rfl hl.1 rfl (lv_room (Nat.le_of_ble_eq_true rfl)) (okX9_init (31, .invokespecial 24, 3) (List.mem_of_getElem? (i := 15) rfl)) ⟨Nat.le_of_ble_eq_true rfl, Nat.le_of_ble_eq_true rfl⟩) hS (fun H locs hw hS => ?_)
  refine sk_putr (b := 63) S hK hw hS kdn_54 (by omega) (T := TX9) (N := 5) rfl hI9 tyX9 tyX9_ok nmX9 2 ⟨by decide, rfl, by decide, rfl, rfl⟩ rfl rfl hin (k' := 2) rfl (by decide +kernel) (fun _ => ⟨rfl, rfl⟩) hL14 (okX9_init (34, .putfield 27, 3) (List.mem_of_getElem? (i := 16) rfl)) (fun H locs hw hS => ?_)
  refine lv_aload_n hx hb (okX9_init (37, .aload_n 0, 1) (List.mem_of_getElem? (i := 17) rfl)) rfl (lv_at hl 0 rfl) ?_
  refine lv_iconst (v := iI 0) hx hb (okX9_init (38, .iconst 0, 1) (List.mem_of_getElem? (i := 18) rfl)) rfl ?_
  refine sk_put S hK ⟨hw, hS⟩ kdn_54 (by omega) (C := RX9) (T := TX9) (N := 5) rfl hI9 tyX9 tyX9_ok nmX9 3 ⟨by decide, rfl, by decide, rfl⟩ rfl rfl (k' := 3) rfl (by decide) ⟨rfl, rfl⟩ hL15 (okX9_init (39, .putfield 31, 3) (List.mem_of_getElem? (i := 19) rfl)) (fun H locs hwp => ?_)
  have hS := hwp.2
  have hw := cw.put hwp.1 (by decide +kernel) (fun j hj i hi => by unfold isrs; rw [hi, kdn_54]; rw [show j = 3 by omega]; rfl)
  refine lv_aload_n hx hb (okX9_init (42, .aload_n 0, 1) (List.mem_of_getElem? (i := 20) rfl)) rfl (lv_at hl 0 rfl) ?_
  refine lv_bipush (v := iI 50) hx hb (okX9_init (43, .bipush 50, 2) (List.mem_of_getElem? (i := 21) rfl)) (by decide +kernel) ?_
  refine sk_put S hK ⟨hw, hS⟩ kdn_54 (by omega) (C := RX9) (T := TX9) (N := 5) rfl hI9 tyX9 tyX9_ok nmX9 4 ⟨by decide, rfl, by decide, rfl⟩ rfl rfl (k' := 4) rfl (by decide) ⟨rfl, rfl⟩ hL16 (okX9_init (45, .putfield 35, 3) (List.mem_of_getElem? (i := 22) rfl)) (fun H locs hwp => ?_)
  have hS := hwp.2
  have hw := cw.put hwp.1 (by decide +kernel) (fun j hj i hi => by unfold isrs; rw [hi, kdn_54]; rw [show j = 4 by omega]; rfl)
  refine lv_iconst (v := iI 0) hx hb (okX9_init (48, .iconst 0, 1) (List.mem_of_getElem? (i := 23) rfl)) rfl ?_
  refine lv_istore_n (lv' := [(1, .int (iI 0)), (0, .ref (sk_ad G 54))]) hx hb (okX9_init (49, .istore_n 1, 1) (List.mem_of_getElem? (i := 24) rfl)) rfl hl (by decide) rfl (fun ls hl => ?_)
  have e9 : uB (uB (uB (bx (uB (bx (uB (B) 54 0) 56 63) 54 1) 63 (63 + 1)) 54 2) 54 3) 54 4 = BL 0 := by
    funext x j
    rw [hBL, if_neg (by omega)]
  have hw : cw G 65 (BL 0) H := by rw [← e9]; exact hw
  exact loop 12 0 rfl _ _ H locs ls (by omega) (by omega) hw hS hl
set_option maxHeartbeats 4000000 in
set_option maxRecDepth 100000 in
theorem c_Foreign_init (l : Launch) (G : sk_G) {B : Int → Int → Bool} (hB : ∀ x k, ((150 : Nat) : Int) ≤ x → B x k = false) : Met l yX1_init wsX1_init ({ frames := 2, cells := 8, slots := 1034, locals := 54 }) (va_Pc [.ref (sk_ad G 149)] (cU G (150) B)) (cQ G (158) (bx B 149 158)) 8 1034 (sk_A G) := by
  refine Met.ofW (cc := cX1_init) (maxL := 1) (ret := none) (by decide) rfl ?_
  intro p e s m args below meth c s₁ B9 hml hv
  obtain ⟨rfl, hU, hK⟩ := hv
  have hx := B9.exec
  have hb := B9.bytes
  have hr0 := B9.returns
  have hts := atoms_spec (ws := wsX1_init) B9.pre
  have hown : s.vm.findClass RX1 = some m.cls := findClass_of_methodNamed B9.named
  have hlocks := B9.notSynchronized
  have hin : meth.name = "<init>" := (name_of_methodNamed B9.named B9.method).1
  have S : CallFix p m c cX1_init 1 s ([.ref (sk_ad G 149)].toArray) wsX1_init RX1 := ⟨hx, hb, hml, hown, hts⟩
  have hL0 := hts (.methodLink RX1 3 objectInit) (by decide +kernel)
  have hL1 := hts (.instanceMethod objectInit) (by decide +kernel)
  have hL2 := hts (.code objectInit ⟨#[0xb1]⟩ 1 none) (by decide +kernel)
  have hL3 := hts (.classLink RX1 9 RX7) (by decide +kernel)
  have hL4 := hts (.instantiable RX7 1) (by decide +kernel)
  have hL5 := hts (.initialized RX7) (by decide +kernel)
  have hL6 := hts (.methodLink RX1 13 yX7_init) (by decide +kernel)
  have hL7 := hts (.instanceMethod yX7_init) (by decide +kernel)
  have hL8 := hts (.fieldLink RX1 16 "SkyLights$Foreign" "cells" "LSkyLights$Row;") (by decide +kernel)
  have hL9 := hts (.fieldLink RX1 20 "SkyLights$Foreign" "heads" "LSkyLights$Row;") (by decide +kernel)
  have hL10 := hts (.fieldLink RX1 23 "SkyLights$Foreign" "tails" "LSkyLights$Row;") (by decide +kernel)
  have hL11 := hts (.fieldLink RX1 26 "SkyLights$Foreign" "cursors" "LSkyLights$Row;") (by decide +kernel)
  have hL12 := hts (.fieldLink RX1 29 "SkyLights$Foreign" "size" "I") (by decide +kernel)
  have hL13 := hts (.fieldLink RX1 33 "SkyLights$Foreign" "one" "I") (by decide +kernel)
  have hL14 := hts (.fieldLink RX1 36 "SkyLights$Foreign" "other" "I") (by decide +kernel)
  have hI1 : ∀ w ∈ u_ws RX1 TX1 7, w ∈ wsX1_init := by decide +kernel
  have hI7 : ∀ w ∈ u_ws RX7 TX7 1, w ∈ wsX1_init := by decide +kernel
  have hS : va_S (sk_A G) s.heap s.heap [] := va_S.rf
  have hw := hU
  have hl := lv_entry ([.ref (sk_ad G 149)]) (n := 1) (Nat.le_of_ble_eq_true rfl)
  rw [lg_entry_eq]
  generalize (lg_sl ([.ref (sk_ad G 149)]) ++ List.replicate (1 - (lg_sl ([.ref (sk_ad G 149)])).length) Slot.unset).toArray = ls at hl ⊢
  have hl : lv_has ls 1 [(0, .ref (sk_ad G 149))] := hl
  refine lv_aload_n hx hb (okX1_init (0, .aload_n 0, 1) (List.mem_of_getElem? (i := 0) rfl)) rfl (lv_at hl 0 rfl) ?_
  refine W.objInit hx hb hown hL0 hL1 hL2 rfl (by rw [hml]; exact hl.1) rfl (okX1_init (1, .invokespecial 3, 3) (List.mem_of_getElem? (i := 1) rfl)) (Nat.le_of_ble_eq_true rfl) (Nat.le_of_ble_eq_true rfl) ?_
  refine W.eq (g2 := F0 m 4 ls []) rfl ?_
  refine lv_aload_n hx hb (okX1_init (4, .aload_n 0, 1) (List.mem_of_getElem? (i := 2) rfl)) rfl (lv_at hl 0 rfl) ?_
  refine sk_new (n := 150) (ci := 7) S hK hw hS (fun x q h => hB x q (by omega)) (C := RX7) (T := TX7) (N := 1) rfl hI7 tyX7 tyX7_ok ⟨by decide +kernel, rfl, by decide⟩ (by decide) hL3 hL4 hL5 ⟨Nat.le_of_ble_eq_true rfl, Nat.le_of_ble_eq_true rfl⟩ (okX1_init (5, .new 9, 3) (List.mem_of_getElem? (i := 3) rfl)) (fun H hw hS => ?_)
  refine lv_dup hx hb (okX1_init (8, .dup, 1) (List.mem_of_getElem? (i := 4) rfl)) rfl ?_
  refine lv_sipush (v := iI 1000) hx hb (okX1_init (9, .sipush 1000, 3) (List.mem_of_getElem? (i := 5) rfl)) (by decide +kernel) ?_
  refine cU_cv (va_runI (As := [.int (iI 1000)]) (rest := [.ref (sk_ad G 150), .ref (sk_ad G 149)]) S (c_Row_init l G (a := 150) (n := 151) (by decide +kernel) rfl (fun x q h => hB x q (by omega)) 1000 (by decide +kernel) (by decide) 1000 rfl (by decide)) (cwI 1 hts gX1_init_X7_init rfl rfl rfl hL5 hL6 hL7 rfl (by decide +kernel) ⟨Nat.le_of_ble_eq_true rfl, Nat.le_of_ble_eq_true rfl⟩) ⟨cU_blind, cU_pre hK hw⟩ rfl rfl hl.1 rfl (lv_room (Nat.le_of_ble_eq_true rfl)) (okX1_init (12, .invokespecial 13, 3) (List.mem_of_getElem? (i := 6) rfl)) ⟨Nat.le_of_ble_eq_true rfl, Nat.le_of_ble_eq_true rfl⟩) hS (fun H locs hw hS => ?_)
  refine sk_putr (b := 150) S hK hw hS kdn_149 (by omega) (T := TX1) (N := 7) rfl hI1 tyX1 tyX1_ok nmX1 0 ⟨by decide, rfl, by decide, rfl, rfl⟩ rfl rfl hin (k' := 0) rfl (by decide +kernel) (fun _ => ⟨rfl, rfl⟩) hL8 (okX1_init (15, .putfield 16, 3) (List.mem_of_getElem? (i := 7) rfl)) (fun H locs hw hS => ?_)
  refine lv_aload_n hx hb (okX1_init (18, .aload_n 0, 1) (List.mem_of_getElem? (i := 8) rfl)) rfl (lv_at hl 0 rfl) ?_
  refine sk_new (n := 152) (ci := 7) S hK hw hS (fun x q h => (uB_o (by omega)).trans ((bx_o (by omega)).trans (hB x q (by omega)))) (C := RX7) (T := TX7) (N := 1) rfl hI7 tyX7 tyX7_ok ⟨by decide +kernel, rfl, by decide⟩ (by decide) hL3 hL4 hL5 ⟨Nat.le_of_ble_eq_true rfl, Nat.le_of_ble_eq_true rfl⟩ (okX1_init (19, .new 9, 3) (List.mem_of_getElem? (i := 9) rfl)) (fun H hw hS => ?_)
  refine lv_dup hx hb (okX1_init (22, .dup, 1) (List.mem_of_getElem? (i := 10) rfl)) rfl ?_
  refine lv_bipush (v := iI 10) hx hb (okX1_init (23, .bipush 10, 2) (List.mem_of_getElem? (i := 11) rfl)) (by decide +kernel) ?_
  refine cU_cv (va_runI (As := [.int (iI 10)]) (rest := [.ref (sk_ad G 152), .ref (sk_ad G 149)]) S (c_Row_init l G (a := 152) (n := 153) (by decide +kernel) rfl (fun x q h => (uB_o (by omega)).trans ((bx_o (by omega)).trans (hB x q (by omega)))) 10 (by decide +kernel) (by decide) 10 rfl (by decide)) (cwI 1 hts gX1_init_X7_init rfl rfl rfl hL5 hL6 hL7 rfl (by decide +kernel) ⟨Nat.le_of_ble_eq_true rfl, Nat.le_of_ble_eq_true rfl⟩) ⟨cU_blind, cU_pre hK hw⟩ rfl rfl hl.1 rfl (lv_room (Nat.le_of_ble_eq_true rfl)) (okX1_init (25, .invokespecial 13, 3) (List.mem_of_getElem? (i := 12) rfl)) ⟨Nat.le_of_ble_eq_true rfl, Nat.le_of_ble_eq_true rfl⟩) hS (fun H locs hw hS => ?_)
  refine sk_putr (b := 152) S hK hw hS kdn_149 (by omega) (T := TX1) (N := 7) rfl hI1 tyX1 tyX1_ok nmX1 1 ⟨by decide, rfl, by decide, rfl, rfl⟩ rfl rfl hin (k' := 1) rfl (by decide +kernel) (fun _ => ⟨rfl, rfl⟩) hL9 (okX1_init (28, .putfield 20, 3) (List.mem_of_getElem? (i := 13) rfl)) (fun H locs hw hS => ?_)
  refine lv_aload_n hx hb (okX1_init (31, .aload_n 0, 1) (List.mem_of_getElem? (i := 14) rfl)) rfl (lv_at hl 0 rfl) ?_
  refine sk_new (n := 154) (ci := 7) S hK hw hS (fun x q h => (uB_o (by omega)).trans ((bx_o (by omega)).trans ((uB_o (by omega)).trans ((bx_o (by omega)).trans (hB x q (by omega)))))) (C := RX7) (T := TX7) (N := 1) rfl hI7 tyX7 tyX7_ok ⟨by decide +kernel, rfl, by decide⟩ (by decide) hL3 hL4 hL5 ⟨Nat.le_of_ble_eq_true rfl, Nat.le_of_ble_eq_true rfl⟩ (okX1_init (32, .new 9, 3) (List.mem_of_getElem? (i := 15) rfl)) (fun H hw hS => ?_)
  refine lv_dup hx hb (okX1_init (35, .dup, 1) (List.mem_of_getElem? (i := 16) rfl)) rfl ?_
  refine lv_bipush (v := iI 10) hx hb (okX1_init (36, .bipush 10, 2) (List.mem_of_getElem? (i := 17) rfl)) (by decide +kernel) ?_
  refine cU_cv (va_runI (As := [.int (iI 10)]) (rest := [.ref (sk_ad G 154), .ref (sk_ad G 149)]) S (c_Row_init l G (a := 154) (n := 155) (by decide +kernel) rfl (fun x q h => (uB_o (by omega)).trans ((bx_o (by omega)).trans ((uB_o (by omega)).trans ((bx_o (by omega)).trans (hB x q (by omega)))))) 10 (by decide +kernel) (by decide) 10 rfl (by decide)) (cwI 1 hts gX1_init_X7_init rfl rfl rfl hL5 hL6 hL7 rfl (by decide +kernel) ⟨Nat.le_of_ble_eq_true rfl, Nat.le_of_ble_eq_true rfl⟩) ⟨cU_blind, cU_pre hK hw⟩ rfl rfl hl.1 rfl (lv_room (Nat.le_of_ble_eq_true rfl)) (okX1_init (38, .invokespecial 13, 3) (List.mem_of_getElem? (i := 18) rfl)) ⟨Nat.le_of_ble_eq_true rfl, Nat.le_of_ble_eq_true rfl⟩) hS (fun H locs hw hS => ?_)
  refine sk_putr (b := 154) S hK hw hS kdn_149 (by omega) (T := TX1) (N := 7) rfl hI1 tyX1 tyX1_ok nmX1 2 ⟨by decide, rfl, by decide, rfl, rfl⟩ rfl rfl hin (k' := 2) rfl (by decide +kernel) (fun _ => ⟨rfl, rfl⟩) hL10 (okX1_init (41, .putfield 23, 3) (List.mem_of_getElem? (i := 19) rfl)) (fun H locs hw hS => ?_)
  refine lv_aload_n hx hb (okX1_init (44, .aload_n 0, 1) (List.mem_of_getElem? (i := 20) rfl)) rfl (lv_at hl 0 rfl) ?_
  refine sk_new (n := 156) (ci := 7) S hK hw hS (fun x q h => (uB_o (by omega)).trans ((bx_o (by omega)).trans ((uB_o (by omega)).trans ((bx_o (by omega)).trans ((uB_o (by omega)).trans ((bx_o (by omega)).trans (hB x q (by omega)))))))) (C := RX7) (T := TX7) (N := 1) rfl hI7 tyX7 tyX7_ok ⟨by decide +kernel, rfl, by decide⟩ (by decide) hL3 hL4 hL5 ⟨Nat.le_of_ble_eq_true rfl, Nat.le_of_ble_eq_true rfl⟩ (okX1_init (45, .new 9, 3) (List.mem_of_getElem? (i := 21) rfl)) (fun H hw hS => ?_)
  refine lv_dup hx hb (okX1_init (48, .dup, 1) (List.mem_of_getElem? (i := 22) rfl)) rfl ?_
  refine lv_bipush (v := iI 10) hx hb (okX1_init (49, .bipush 10, 2) (List.mem_of_getElem? (i := 23) rfl)) (by decide +kernel) ?_
  refine cU_cv (va_runI (As := [.int (iI 10)]) (rest := [.ref (sk_ad G 156), .ref (sk_ad G 149)]) S (c_Row_init l G (a := 156) (n := 157) (by decide +kernel) rfl (fun x q h => (uB_o (by omega)).trans ((bx_o (by omega)).trans ((uB_o (by omega)).trans ((bx_o (by omega)).trans ((uB_o (by omega)).trans ((bx_o (by omega)).trans (hB x q (by omega)))))))) 10 (by decide +kernel) (by decide) 10 rfl (by decide)) (cwI 1 hts gX1_init_X7_init rfl rfl rfl hL5 hL6 hL7 rfl (by decide +kernel) ⟨Nat.le_of_ble_eq_true rfl, Nat.le_of_ble_eq_true rfl⟩) ⟨cU_blind, cU_pre hK hw⟩ rfl rfl hl.1 rfl (lv_room (Nat.le_of_ble_eq_true rfl)) (okX1_init (51, .invokespecial 13, 3) (List.mem_of_getElem? (i := 24) rfl)) ⟨Nat.le_of_ble_eq_true rfl, Nat.le_of_ble_eq_true rfl⟩) hS (fun H locs hw hS => ?_)
  refine sk_putr (b := 156) S hK hw hS kdn_149 (by omega) (T := TX1) (N := 7) rfl hI1 tyX1 tyX1_ok nmX1 3 ⟨by decide, rfl, by decide, rfl, rfl⟩ rfl rfl hin (k' := 3) rfl (by decide +kernel) (fun _ => ⟨rfl, rfl⟩) hL11 (okX1_init (54, .putfield 26, 3) (List.mem_of_getElem? (i := 25) rfl)) (fun H locs hw hS => ?_)
  refine lv_aload_n hx hb (okX1_init (57, .aload_n 0, 1) (List.mem_of_getElem? (i := 26) rfl)) rfl (lv_at hl 0 rfl) ?_
  refine lv_iconst (v := iI 0) hx hb (okX1_init (58, .iconst 0, 1) (List.mem_of_getElem? (i := 27) rfl)) rfl ?_
  refine sk_put S hK ⟨hw, hS⟩ kdn_149 (by omega) (C := RX1) (T := TX1) (N := 7) rfl hI1 tyX1 tyX1_ok nmX1 4 ⟨by decide, rfl, by decide, rfl⟩ rfl rfl (k' := 4) rfl (by decide) ⟨rfl, rfl⟩ hL12 (okX1_init (59, .putfield 29, 3) (List.mem_of_getElem? (i := 28) rfl)) (fun H locs hwp => ?_)
  have hS := hwp.2
  have hw := cw.put hwp.1 (by decide +kernel) (fun j hj i hi => by unfold isrs; rw [hi, kdn_149]; rw [show j = 4 by omega]; rfl)
  refine lv_aload_n hx hb (okX1_init (62, .aload_n 0, 1) (List.mem_of_getElem? (i := 29) rfl)) rfl (lv_at hl 0 rfl) ?_
  refine lv_iconst (v := iI (-1)) hx hb (okX1_init (63, .iconst (-1), 1) (List.mem_of_getElem? (i := 30) rfl)) rfl ?_
  refine sk_put S hK ⟨hw, hS⟩ kdn_149 (by omega) (C := RX1) (T := TX1) (N := 7) rfl hI1 tyX1 tyX1_ok nmX1 5 ⟨by decide, rfl, by decide, rfl⟩ rfl rfl (k' := 5) rfl (by decide) ⟨rfl, rfl⟩ hL13 (okX1_init (64, .putfield 33, 3) (List.mem_of_getElem? (i := 31) rfl)) (fun H locs hwp => ?_)
  have hS := hwp.2
  have hw := cw.put hwp.1 (by decide +kernel) (fun j hj i hi => by unfold isrs; rw [hi, kdn_149]; rw [show j = 5 by omega]; rfl)
  refine lv_aload_n hx hb (okX1_init (67, .aload_n 0, 1) (List.mem_of_getElem? (i := 32) rfl)) rfl (lv_at hl 0 rfl) ?_
  refine lv_iconst (v := iI (-1)) hx hb (okX1_init (68, .iconst (-1), 1) (List.mem_of_getElem? (i := 33) rfl)) rfl ?_
  refine sk_put S hK ⟨hw, hS⟩ kdn_149 (by omega) (C := RX1) (T := TX1) (N := 7) rfl hI1 tyX1 tyX1_ok nmX1 6 ⟨by decide, rfl, by decide, rfl⟩ rfl rfl (k' := 6) rfl (by decide) ⟨rfl, rfl⟩ hL14 (okX1_init (69, .putfield 36, 3) (List.mem_of_getElem? (i := 34) rfl)) (fun H locs hwp => ?_)
  have hS := hwp.2
  have hw := cw.put hwp.1 (by decide +kernel) (fun j hj i hi => by unfold isrs; rw [hi, kdn_149]; rw [show j = 6 by omega]; rfl)
  refine lv_aload_n hx hb (okX1_init (72, .aload_n 0, 1) (List.mem_of_getElem? (i := 35) rfl)) rfl (lv_at hl 0 rfl) ?_
  refine sk_getr (b := 152) S hK ⟨hw, hS⟩ kdn_149 (by omega) (C := RX1) (T := TX1) (N := 7) rfl hI1 1 ⟨by decide, rfl, by decide, rfl⟩ rfl (k' := 1) rfl (uB_m (uB_m (uB_m (uB_m (bx_m (uB_m (bx_m (uB_h rfl rfl)))))))) (by decide +kernel) hL9 (okX1_init (73, .getfield 20, 3) (List.mem_of_getElem? (i := 36) rfl)) ?_
  refine lv_iconst (v := iI (-1)) hx hb (okX1_init (76, .iconst (-1), 1) (List.mem_of_getElem? (i := 37) rfl)) rfl ?_
  refine sk_cv (n := 158) (sk_runV (a := 152) (C := RX7) (As := [.int (iI (-1))]) (rest := []) S (c_Row_fill_c l G (n := 158) kdn_152 (by decide) (by omega) (by omega) (uB_m (uB_m (uB_m (uB_m (bx_m (uB_m (bx_m (uB_m (bx_h (by omega)))))))))) (s_Row_fill kdn_152 (fun I' h => h))) sk_blind gX1_init_X7_fill rfl hdX7_fill ⟨⟨rfl, rfl⟩, Nat.le_of_ble_eq_true rfl, Nat.le_of_ble_eq_true rfl⟩ (sk_recv hK ⟨hw, hS⟩ kdn_152 (by omega) (by decide) rfl) (sk_pre hK ⟨hw, hS⟩) rfl hl.1 rfl (Nat.le_of_ble_eq_true rfl) (okX1_init (77, .invokevirtual 39, 3) (List.mem_of_getElem? (i := 38) rfl)) ⟨Nat.le_of_ble_eq_true rfl, Nat.le_of_ble_eq_true rfl⟩) ⟨hw, hS⟩ (fun I' H locs hI hwp => ?_)
  have hS := hwp.2
  have hw : cw G 158 (bx (uB (uB (uB (uB (bx (uB (bx (uB (bx (uB (bx (B) 150 (150 + 1)) 149 0) 152 (152 + 1)) 149 1) 154 (154 + 1)) 149 2) 156 (156 + 1)) 149 3) 149 4) 149 5) 149 6) 153 154) H := cw.fill hwp.1 hI (Or.inl rfl)
  refine lv_aload_n hx hb (okX1_init (80, .aload_n 0, 1) (List.mem_of_getElem? (i := 39) rfl)) rfl (lv_at hl 0 rfl) ?_
  refine sk_getr (b := 154) S hK ⟨hw, hS⟩ kdn_149 (by omega) (C := RX1) (T := TX1) (N := 7) rfl hI1 2 ⟨by decide, rfl, by decide, rfl⟩ rfl (k' := 2) rfl (bx_m (uB_m (uB_m (uB_m (uB_m (bx_m (uB_h rfl rfl))))))) (by decide +kernel) hL10 (okX1_init (81, .getfield 23, 3) (List.mem_of_getElem? (i := 40) rfl)) ?_
  refine lv_iconst (v := iI (-1)) hx hb (okX1_init (84, .iconst (-1), 1) (List.mem_of_getElem? (i := 41) rfl)) rfl ?_
  refine sk_cv (n := 158) (sk_runV (a := 154) (C := RX7) (As := [.int (iI (-1))]) (rest := []) S (c_Row_fill_c l G (n := 158) kdn_154 (by decide) (by omega) (by omega) (bx_m (uB_m (uB_m (uB_m (uB_m (bx_m (uB_m (bx_h (by omega))))))))) (s_Row_fill kdn_154 (fun I' h => h))) sk_blind gX1_init_X7_fill rfl hdX7_fill ⟨⟨rfl, rfl⟩, Nat.le_of_ble_eq_true rfl, Nat.le_of_ble_eq_true rfl⟩ (sk_recv hK ⟨hw, hS⟩ kdn_154 (by omega) (by decide) rfl) (sk_pre hK ⟨hw, hS⟩) rfl hl.1 rfl (Nat.le_of_ble_eq_true rfl) (okX1_init (85, .invokevirtual 39, 3) (List.mem_of_getElem? (i := 42) rfl)) ⟨Nat.le_of_ble_eq_true rfl, Nat.le_of_ble_eq_true rfl⟩) ⟨hw, hS⟩ (fun I' H locs hI hwp => ?_)
  have hS := hwp.2
  have hw : cw G 158 (bx (bx (uB (uB (uB (uB (bx (uB (bx (uB (bx (uB (bx (B) 150 (150 + 1)) 149 0) 152 (152 + 1)) 149 1) 154 (154 + 1)) 149 2) 156 (156 + 1)) 149 3) 149 4) 149 5) 149 6) 153 154) 155 156) H := cw.fill hwp.1 hI (Or.inr rfl)
  have hfin : cw G (158) (bx B 149 158) H := by
    have hother : ∀ i : Nat, (i : Int) < 158 → (i : Int) ≠ 149 → ∀ q : Int, (i : Int) ≠ 151 → (i : Int) ≠ 157 → (bx (bx (uB (uB (uB (uB (bx (uB (bx (uB (bx (uB (bx (B) 150 (150 + 1)) 149 0) 152 (152 + 1)) 149 1) 154 (154 + 1)) 149 2) 156 (156 + 1)) 149 3) 149 4) 149 5) 149 6) 153 154) 155 156) i q = bx B 149 158 i q := by
      intro i hi e q e0 e1 
      by_cases e9 : (i : Int) < 149
      · exact ((bx_o (by omega)).trans ((bx_o (by omega)).trans ((uB_o (by omega)).trans ((uB_o (by omega)).trans ((uB_o (by omega)).trans ((uB_o (by omega)).trans ((bx_o (by omega)).trans ((uB_o (by omega)).trans ((bx_o (by omega)).trans ((uB_o (by omega)).trans ((bx_o (by omega)).trans ((uB_o (by omega)).trans ((bx_o (by omega)).trans (rfl)))))))))))))).trans (bx_o (by omega)).symm
      · rcases (by omega : (150 ≤ (i : Int) ∧ (i : Int) < 150 + 1) ∨ (152 ≤ (i : Int) ∧ (i : Int) < 152 + 1) ∨ (154 ≤ (i : Int) ∧ (i : Int) < 154 + 1) ∨ (156 ≤ (i : Int) ∧ (i : Int) < 156 + 1) ∨ (153 ≤ (i : Int) ∧ (i : Int) < 154) ∨ (155 ≤ (i : Int) ∧ (i : Int) < 156)) with h | h | h | h | h | h
        · exact (bx_m (bx_m (uB_m (uB_m (uB_m (uB_m (bx_m (uB_m (bx_m (uB_m (bx_m (uB_m (bx_h (by omega)))))))))))))).trans (bx_h (by omega)).symm
        · exact (bx_m (bx_m (uB_m (uB_m (uB_m (uB_m (bx_m (uB_m (bx_m (uB_m (bx_h (by omega)))))))))))).trans (bx_h (by omega)).symm
        · exact (bx_m (bx_m (uB_m (uB_m (uB_m (uB_m (bx_m (uB_m (bx_h (by omega)))))))))).trans (bx_h (by omega)).symm
        · exact (bx_m (bx_m (uB_m (uB_m (uB_m (uB_m (bx_h (by omega)))))))).trans (bx_h (by omega)).symm
        · exact (bx_m (bx_h (by omega))).trans (bx_h (by omega)).symm
        · exact (bx_h (by omega)).trans (bx_h (by omega)).symm
    refine hw.cong (fun i hi q hq => ?_) (fun i hi q => ?_)
    · by_cases e : (i : Int) = 149
      · unfold isrs at hq; rw [e, kdn_149] at hq
        rw [e]
        rcases isr_1 q hq with h | h | h | h
        · subst h; exact (bx_m (bx_m (uB_m (uB_m (uB_m (uB_m (bx_m (uB_m (bx_m (uB_m (bx_m (uB_h rfl rfl)))))))))))).trans (bx_h (by omega)).symm
        · subst h; exact (bx_m (bx_m (uB_m (uB_m (uB_m (uB_m (bx_m (uB_m (bx_m (uB_h rfl rfl)))))))))).trans (bx_h (by omega)).symm
        · subst h; exact (bx_m (bx_m (uB_m (uB_m (uB_m (uB_m (bx_m (uB_h rfl rfl)))))))).trans (bx_h (by omega)).symm
        · subst h; exact (bx_m (bx_m (uB_m (uB_m (uB_m (uB_h rfl rfl)))))).trans (bx_h (by omega)).symm
      · by_cases e0 : (i : Int) = 151
        · unfold isrs at hq; rw [e0, kdn_151] at hq; simp at hq
        · by_cases e1 : (i : Int) = 157
          · unfold isrs at hq; rw [e1, kdn_157] at hq; simp at hq
          · exact hother i (by omega) e q e0 e1
    · by_cases e : (i : Int) = 149
      · by_cases e2 : q = 5 ∨ q = 6
        · left; rw [e]; rcases e2 with h | h
          · rw [h]; exact (bx_m (bx_m (uB_m (uB_h rfl rfl)))).trans (bx_h (by omega)).symm
          · rw [h]; exact (bx_m (bx_m (uB_h rfl rfl))).trans (bx_h (by omega)).symm
        · right; unfold I0; rw [e, kdn_149]; simp only []; (repeat' rw [if_neg (by omega)])
      · by_cases e0 : (i : Int) = 151
        · right; unfold I0; rw [e0, kdn_151]; simp only []; rw [if_neg (by omega)]
        · by_cases e1 : (i : Int) = 157
          · right; unfold I0; rw [e1, kdn_157]; simp only []; rw [if_neg (by omega)]
          · left; exact hother i (by omega) e q e0 e1
  refine W.widen (k := 8) (n := 1034) (by decide) (by decide) ?_
  exact cU_ret hx hb hr0 hlocks hK hfin hS (okX1_init (88, .return_, 1) (List.mem_of_getElem? (i := 43) rfl))
set_option maxHeartbeats 4000000 in
set_option maxRecDepth 100000 in
theorem c_Sky_init (l : Launch) (G : sk_G) {B : Int → Int → Bool} (hB : ∀ x k, ((1 : Nat) : Int) ≤ x → B x k = false) : Met l yX11_init wsX11_init ({ frames := 5, cells := 157, slots := 5414, locals := 94 }) (va_Pc [.ref (sk_ad G 0)] (cU G (1) B)) (cQ G (158) (bx B 0 158)) 157 5414 (sk_A G) := by
  refine Met.ofW (cc := cX11_init) (maxL := 1) (ret := none) (by decide) rfl ?_
  intro p e s m args below meth c s₁ B9 hml hv
  obtain ⟨rfl, hU, hK⟩ := hv
  have hx := B9.exec
  have hb := B9.bytes
  have hr0 := B9.returns
  have hts := atoms_spec (ws := wsX11_init) B9.pre
  have hown : s.vm.findClass RX11 = some m.cls := findClass_of_methodNamed B9.named
  have hlocks := B9.notSynchronized
  have hin : meth.name = "<init>" := (name_of_methodNamed B9.named B9.method).1
  have S : CallFix p m c cX11_init 1 s ([.ref (sk_ad G 0)].toArray) wsX11_init RX11 := ⟨hx, hb, hml, hown, hts⟩
  have hL0 := hts (.methodLink RX11 1 objectInit) (by decide +kernel)
  have hL1 := hts (.instanceMethod objectInit) (by decide +kernel)
  have hL2 := hts (.code objectInit ⟨#[0xb1]⟩ 1 none) (by decide +kernel)
  have hL3 := hts (.classLink RX11 7 RX10) (by decide +kernel)
  have hL4 := hts (.instantiable RX10 4) (by decide +kernel)
  have hL5 := hts (.initialized RX10) (by decide +kernel)
  have hL6 := hts (.instanceMethod yX10_init) (by decide +kernel)
  have hL7 := hts (.fieldLink RX11 10 "SkyLights" "tape" "LSkyLights$Tape;") (by decide +kernel)
  have hL8 := hts (.classLink RX11 16 RX2) (by decide +kernel)
  have hL9 := hts (.instantiable RX2 4) (by decide +kernel)
  have hL10 := hts (.initialized RX2) (by decide +kernel)
  have hL11 := hts (.methodLink RX11 18 yX2_init) (by decide +kernel)
  have hL12 := hts (.instanceMethod yX2_init) (by decide +kernel)
  have hL13 := hts (.fieldLink RX11 19 "SkyLights" "gallery" "LSkyLights$Gallery;") (by decide +kernel)
  have hL14 := hts (.classLink RX11 23 RX0) (by decide +kernel)
  have hL15 := hts (.instantiable RX0 4) (by decide +kernel)
  have hL16 := hts (.initialized RX0) (by decide +kernel)
  have hL17 := hts (.instanceMethod yX0_init) (by decide +kernel)
  have hL18 := hts (.fieldLink RX11 26 "SkyLights" "air" "LSkyLights$Air;") (by decide +kernel)
  have hL19 := hts (.classLink RX11 30 RX6) (by decide +kernel)
  have hL20 := hts (.instantiable RX6 3) (by decide +kernel)
  have hL21 := hts (.initialized RX6) (by decide +kernel)
  have hL22 := hts (.instanceMethod yX6_init) (by decide +kernel)
  have hL23 := hts (.fieldLink RX11 33 "SkyLights" "planner" "LSkyLights$Planner;") (by decide +kernel)
  have hL24 := hts (.classLink RX11 37 RX4) (by decide +kernel)
  have hL25 := hts (.instantiable RX4 3) (by decide +kernel)
  have hL26 := hts (.initialized RX4) (by decide +kernel)
  have hL27 := hts (.instanceMethod yX4_init) (by decide +kernel)
  have hL28 := hts (.fieldLink RX11 40 "SkyLights" "latest" "LSkyLights$Pass;") (by decide +kernel)
  have hL29 := hts (.classLink RX11 44 RX3) (by decide +kernel)
  have hL30 := hts (.instantiable RX3 6) (by decide +kernel)
  have hL31 := hts (.initialized RX3) (by decide +kernel)
  have hL32 := hts (.instanceMethod yX3_init) (by decide +kernel)
  have hL33 := hts (.fieldLink RX11 47 "SkyLights" "parting" "LSkyLights$Parting;") (by decide +kernel)
  have hL34 := hts (.classLink RX11 51 RX9) (by decide +kernel)
  have hL35 := hts (.instantiable RX9 5) (by decide +kernel)
  have hL36 := hts (.initialized RX9) (by decide +kernel)
  have hL37 := hts (.methodLink RX11 53 yX9_init) (by decide +kernel)
  have hL38 := hts (.instanceMethod yX9_init) (by decide +kernel)
  have hL39 := hts (.fieldLink RX11 54 "SkyLights" "show" "LSkyLights$Show;") (by decide +kernel)
  have hL40 := hts (.classLink RX11 58 RX1) (by decide +kernel)
  have hL41 := hts (.instantiable RX1 7) (by decide +kernel)
  have hL42 := hts (.initialized RX1) (by decide +kernel)
  have hL43 := hts (.methodLink RX11 60 yX1_init) (by decide +kernel)
  have hL44 := hts (.instanceMethod yX1_init) (by decide +kernel)
  have hL45 := hts (.fieldLink RX11 61 "SkyLights" "foreign" "LSkyLights$Foreign;") (by decide +kernel)
  have hI0 : ∀ w ∈ u_ws RX0 TX0 4, w ∈ wsX11_init := by decide +kernel
  have hI1 : ∀ w ∈ u_ws RX1 TX1 7, w ∈ wsX11_init := by decide +kernel
  have hI2 : ∀ w ∈ u_ws RX2 TX2 4, w ∈ wsX11_init := by decide +kernel
  have hI3 : ∀ w ∈ u_ws RX3 TX3 6, w ∈ wsX11_init := by decide +kernel
  have hI4 : ∀ w ∈ u_ws RX4 TX4 3, w ∈ wsX11_init := by decide +kernel
  have hI6 : ∀ w ∈ u_ws RX6 TX6 3, w ∈ wsX11_init := by decide +kernel
  have hI9 : ∀ w ∈ u_ws RX9 TX9 5, w ∈ wsX11_init := by decide +kernel
  have hI10 : ∀ w ∈ u_ws RX10 TX10 4, w ∈ wsX11_init := by decide +kernel
  have hI11 : ∀ w ∈ u_ws RX11 TX11 8, w ∈ wsX11_init := by decide +kernel
  have hS : va_S (sk_A G) s.heap s.heap [] := va_S.rf
  have hw := hU
  have hl := lv_entry ([.ref (sk_ad G 0)]) (n := 1) (Nat.le_of_ble_eq_true rfl)
  rw [lg_entry_eq]
  generalize (lg_sl ([.ref (sk_ad G 0)]) ++ List.replicate (1 - (lg_sl ([.ref (sk_ad G 0)])).length) Slot.unset).toArray = ls at hl ⊢
  have hl : lv_has ls 1 [(0, .ref (sk_ad G 0))] := hl
  refine lv_aload_n hx hb (okX11_init (0, .aload_n 0, 1) (List.mem_of_getElem? (i := 0) rfl)) rfl (lv_at hl 0 rfl) ?_
  refine W.objInit hx hb hown hL0 hL1 hL2 rfl (by rw [hml]; exact hl.1) rfl (okX11_init (1, .invokespecial 1, 3) (List.mem_of_getElem? (i := 1) rfl)) (Nat.le_of_ble_eq_true rfl) (Nat.le_of_ble_eq_true rfl) ?_
  refine W.eq (g2 := F0 m 4 ls []) rfl ?_
  refine lv_aload_n hx hb (okX11_init (4, .aload_n 0, 1) (List.mem_of_getElem? (i := 2) rfl)) rfl (lv_at hl 0 rfl) ?_
  refine sk_new (n := 1) (ci := 10) S hK hw hS (fun x q h => hB x q (by omega)) (C := RX10) (T := TX10) (N := 4) rfl hI10 tyX10 tyX10_ok ⟨by decide +kernel, rfl, by decide⟩ (by decide) hL3 hL4 hL5 ⟨Nat.le_of_ble_eq_true rfl, Nat.le_of_ble_eq_true rfl⟩ (okX11_init (5, .new 7, 3) (List.mem_of_getElem? (i := 3) rfl)) (fun H hw hS => ?_)
  refine lv_dup hx hb (okX11_init (8, .dup, 1) (List.mem_of_getElem? (i := 4) rfl)) rfl ?_
  refine cU_cv (va_runIN (As := []) (rest := [.ref (sk_ad G 1), .ref (sk_ad G 0)]) S (c_Tape_init l G (fun x q h => hB x q (by omega))) ⟨va_cnB 0 hts gX11_init_X10_init_n9 rfl rfl rfl (hK.2.2.1 ("SkyLights", 9, yX10_init) (by decide +kernel)) hL5 (by decide +kernel) ⟨Nat.le_of_ble_eq_true rfl, Nat.le_of_ble_eq_true rfl⟩, rfl, hL6⟩ ⟨cU_blind, cU_pre hK hw⟩ rfl rfl hl.1 rfl (lv_room (Nat.le_of_ble_eq_true rfl)) (okX11_init (9, .invokespecial 9, 3) (List.mem_of_getElem? (i := 5) rfl)) ⟨Nat.le_of_ble_eq_true rfl, Nat.le_of_ble_eq_true rfl⟩) hS (fun H locs hw hS => ?_)
  refine sk_putr (b := 1) S hK hw hS kdn_0 (by omega) (T := TX11) (N := 8) rfl hI11 tyX11 tyX11_ok nmX11 0 ⟨by decide, rfl, by decide, rfl, rfl⟩ rfl rfl hin (k' := 0) rfl (by decide +kernel) (fun _ => ⟨rfl, rfl⟩) hL7 (okX11_init (12, .putfield 10, 3) (List.mem_of_getElem? (i := 6) rfl)) (fun H locs hw hS => ?_)
  refine lv_aload_n hx hb (okX11_init (15, .aload_n 0, 1) (List.mem_of_getElem? (i := 7) rfl)) rfl (lv_at hl 0 rfl) ?_
  refine sk_new (n := 4) (ci := 2) S hK hw hS (fun x q h => (uB_o (by omega)).trans ((bx_o (by omega)).trans (hB x q (by omega)))) (C := RX2) (T := TX2) (N := 4) rfl hI2 tyX2 tyX2_ok ⟨by decide +kernel, rfl, by decide⟩ (by decide) hL8 hL9 hL10 ⟨Nat.le_of_ble_eq_true rfl, Nat.le_of_ble_eq_true rfl⟩ (okX11_init (16, .new 16, 3) (List.mem_of_getElem? (i := 8) rfl)) (fun H hw hS => ?_)
  refine lv_dup hx hb (okX11_init (19, .dup, 1) (List.mem_of_getElem? (i := 9) rfl)) rfl ?_
  refine cU_cv (va_runI (As := []) (rest := [.ref (sk_ad G 4), .ref (sk_ad G 0)]) S (c_Gallery_init l G (fun x q h => (uB_o (by omega)).trans ((bx_o (by omega)).trans (hB x q (by omega))))) (cwI 0 hts gX11_init_X2_init rfl rfl rfl hL10 hL11 hL12 rfl (by decide +kernel) ⟨Nat.le_of_ble_eq_true rfl, Nat.le_of_ble_eq_true rfl⟩) ⟨cU_blind, cU_pre hK hw⟩ rfl rfl hl.1 rfl (lv_room (Nat.le_of_ble_eq_true rfl)) (okX11_init (20, .invokespecial 18, 3) (List.mem_of_getElem? (i := 10) rfl)) ⟨Nat.le_of_ble_eq_true rfl, Nat.le_of_ble_eq_true rfl⟩) hS (fun H locs hw hS => ?_)
  refine sk_putr (b := 4) S hK hw hS kdn_0 (by omega) (T := TX11) (N := 8) rfl hI11 tyX11 tyX11_ok nmX11 1 ⟨by decide, rfl, by decide, rfl, rfl⟩ rfl rfl hin (k' := 1) rfl (by decide +kernel) (fun _ => ⟨rfl, rfl⟩) hL13 (okX11_init (23, .putfield 19, 3) (List.mem_of_getElem? (i := 11) rfl)) (fun H locs hw hS => ?_)
  refine lv_aload_n hx hb (okX11_init (26, .aload_n 0, 1) (List.mem_of_getElem? (i := 12) rfl)) rfl (lv_at hl 0 rfl) ?_
  refine sk_new (n := 36) (ci := 0) S hK hw hS (fun x q h => (uB_o (by omega)).trans ((bx_o (by omega)).trans ((uB_o (by omega)).trans ((bx_o (by omega)).trans (hB x q (by omega)))))) (C := RX0) (T := TX0) (N := 4) rfl hI0 tyX0 tyX0_ok ⟨by decide +kernel, rfl, by decide⟩ (by decide) hL14 hL15 hL16 ⟨Nat.le_of_ble_eq_true rfl, Nat.le_of_ble_eq_true rfl⟩ (okX11_init (27, .new 23, 3) (List.mem_of_getElem? (i := 13) rfl)) (fun H hw hS => ?_)
  refine lv_dup hx hb (okX11_init (30, .dup, 1) (List.mem_of_getElem? (i := 14) rfl)) rfl ?_
  refine cU_cv (va_runIN (As := []) (rest := [.ref (sk_ad G 36), .ref (sk_ad G 0)]) S (c_Air_init l G (fun x q h => (uB_o (by omega)).trans ((bx_o (by omega)).trans ((uB_o (by omega)).trans ((bx_o (by omega)).trans (hB x q (by omega))))))) ⟨va_cnB 0 hts gX11_init_X0_init_n25 rfl rfl rfl (hK.2.2.1 ("SkyLights", 25, yX0_init) (by decide +kernel)) hL16 (by decide +kernel) ⟨Nat.le_of_ble_eq_true rfl, Nat.le_of_ble_eq_true rfl⟩, rfl, hL17⟩ ⟨cU_blind, cU_pre hK hw⟩ rfl rfl hl.1 rfl (lv_room (Nat.le_of_ble_eq_true rfl)) (okX11_init (31, .invokespecial 25, 3) (List.mem_of_getElem? (i := 15) rfl)) ⟨Nat.le_of_ble_eq_true rfl, Nat.le_of_ble_eq_true rfl⟩) hS (fun H locs hw hS => ?_)
  refine sk_putr (b := 36) S hK hw hS kdn_0 (by omega) (T := TX11) (N := 8) rfl hI11 tyX11 tyX11_ok nmX11 2 ⟨by decide, rfl, by decide, rfl, rfl⟩ rfl rfl hin (k' := 2) rfl (by decide +kernel) (fun _ => ⟨rfl, rfl⟩) hL18 (okX11_init (34, .putfield 26, 3) (List.mem_of_getElem? (i := 16) rfl)) (fun H locs hw hS => ?_)
  refine lv_aload_n hx hb (okX11_init (37, .aload_n 0, 1) (List.mem_of_getElem? (i := 17) rfl)) rfl (lv_at hl 0 rfl) ?_
  refine sk_new (n := 37) (ci := 6) S hK hw hS (fun x q h => (uB_o (by omega)).trans ((bx_o (by omega)).trans ((uB_o (by omega)).trans ((bx_o (by omega)).trans ((uB_o (by omega)).trans ((bx_o (by omega)).trans (hB x q (by omega)))))))) (C := RX6) (T := TX6) (N := 3) rfl hI6 tyX6 tyX6_ok ⟨by decide +kernel, rfl, by decide⟩ (by decide) hL19 hL20 hL21 ⟨Nat.le_of_ble_eq_true rfl, Nat.le_of_ble_eq_true rfl⟩ (okX11_init (38, .new 30, 3) (List.mem_of_getElem? (i := 18) rfl)) (fun H hw hS => ?_)
  refine lv_dup hx hb (okX11_init (41, .dup, 1) (List.mem_of_getElem? (i := 19) rfl)) rfl ?_
  refine cU_cv (va_runIN (As := []) (rest := [.ref (sk_ad G 37), .ref (sk_ad G 0)]) S (c_Planner_init l G (fun x q h => (uB_o (by omega)).trans ((bx_o (by omega)).trans ((uB_o (by omega)).trans ((bx_o (by omega)).trans ((uB_o (by omega)).trans ((bx_o (by omega)).trans (hB x q (by omega))))))))) ⟨va_cnB 0 hts gX11_init_X6_init_n32 rfl rfl rfl (hK.2.2.1 ("SkyLights", 32, yX6_init) (by decide +kernel)) hL21 (by decide +kernel) ⟨Nat.le_of_ble_eq_true rfl, Nat.le_of_ble_eq_true rfl⟩, rfl, hL22⟩ ⟨cU_blind, cU_pre hK hw⟩ rfl rfl hl.1 rfl (lv_room (Nat.le_of_ble_eq_true rfl)) (okX11_init (42, .invokespecial 32, 3) (List.mem_of_getElem? (i := 20) rfl)) ⟨Nat.le_of_ble_eq_true rfl, Nat.le_of_ble_eq_true rfl⟩) hS (fun H locs hw hS => ?_)
  refine sk_putr (b := 37) S hK hw hS kdn_0 (by omega) (T := TX11) (N := 8) rfl hI11 tyX11 tyX11_ok nmX11 3 ⟨by decide, rfl, by decide, rfl, rfl⟩ rfl rfl hin (k' := 3) rfl (by decide +kernel) (fun _ => ⟨rfl, rfl⟩) hL23 (okX11_init (45, .putfield 33, 3) (List.mem_of_getElem? (i := 21) rfl)) (fun H locs hw hS => ?_)
  refine lv_aload_n hx hb (okX11_init (48, .aload_n 0, 1) (List.mem_of_getElem? (i := 22) rfl)) rfl (lv_at hl 0 rfl) ?_
  refine sk_new (n := 44) (ci := 4) S hK hw hS (fun x q h => (uB_o (by omega)).trans ((bx_o (by omega)).trans ((uB_o (by omega)).trans ((bx_o (by omega)).trans ((uB_o (by omega)).trans ((bx_o (by omega)).trans ((uB_o (by omega)).trans ((bx_o (by omega)).trans (hB x q (by omega)))))))))) (C := RX4) (T := TX4) (N := 3) rfl hI4 tyX4 tyX4_ok ⟨by decide +kernel, rfl, by decide⟩ (by decide) hL24 hL25 hL26 ⟨Nat.le_of_ble_eq_true rfl, Nat.le_of_ble_eq_true rfl⟩ (okX11_init (49, .new 37, 3) (List.mem_of_getElem? (i := 23) rfl)) (fun H hw hS => ?_)
  refine lv_dup hx hb (okX11_init (52, .dup, 1) (List.mem_of_getElem? (i := 24) rfl)) rfl ?_
  refine cU_cv (va_runIN (As := []) (rest := [.ref (sk_ad G 44), .ref (sk_ad G 0)]) S (c_Pass_init l G (a := 44) (n := 45) (by decide +kernel) rfl (fun x q h => (uB_o (by omega)).trans ((bx_o (by omega)).trans ((uB_o (by omega)).trans ((bx_o (by omega)).trans ((uB_o (by omega)).trans ((bx_o (by omega)).trans ((uB_o (by omega)).trans ((bx_o (by omega)).trans (hB x q (by omega))))))))))) ⟨va_cnB 0 hts gX11_init_X4_init_n39 rfl rfl rfl (hK.2.2.1 ("SkyLights", 39, yX4_init) (by decide +kernel)) hL26 (by decide +kernel) ⟨Nat.le_of_ble_eq_true rfl, Nat.le_of_ble_eq_true rfl⟩, rfl, hL27⟩ ⟨cU_blind, cU_pre hK hw⟩ rfl rfl hl.1 rfl (lv_room (Nat.le_of_ble_eq_true rfl)) (okX11_init (53, .invokespecial 39, 3) (List.mem_of_getElem? (i := 25) rfl)) ⟨Nat.le_of_ble_eq_true rfl, Nat.le_of_ble_eq_true rfl⟩) hS (fun H locs hw hS => ?_)
  refine sk_putr (b := 44) S hK hw hS kdn_0 (by omega) (T := TX11) (N := 8) rfl hI11 tyX11 tyX11_ok nmX11 4 ⟨by decide, rfl, by decide, rfl, rfl⟩ rfl rfl hin (k' := 4) rfl (by decide +kernel) (fun _ => ⟨rfl, rfl⟩) hL28 (okX11_init (56, .putfield 40, 3) (List.mem_of_getElem? (i := 26) rfl)) (fun H locs hw hS => ?_)
  refine lv_aload_n hx hb (okX11_init (59, .aload_n 0, 1) (List.mem_of_getElem? (i := 27) rfl)) rfl (lv_at hl 0 rfl) ?_
  refine sk_new (n := 47) (ci := 3) S hK hw hS (fun x q h => (uB_o (by omega)).trans ((bx_o (by omega)).trans ((uB_o (by omega)).trans ((bx_o (by omega)).trans ((uB_o (by omega)).trans ((bx_o (by omega)).trans ((uB_o (by omega)).trans ((bx_o (by omega)).trans ((uB_o (by omega)).trans ((bx_o (by omega)).trans (hB x q (by omega)))))))))))) (C := RX3) (T := TX3) (N := 6) rfl hI3 tyX3 tyX3_ok ⟨by decide +kernel, rfl, by decide⟩ (by decide) hL29 hL30 hL31 ⟨Nat.le_of_ble_eq_true rfl, Nat.le_of_ble_eq_true rfl⟩ (okX11_init (60, .new 44, 3) (List.mem_of_getElem? (i := 28) rfl)) (fun H hw hS => ?_)
  refine lv_dup hx hb (okX11_init (63, .dup, 1) (List.mem_of_getElem? (i := 29) rfl)) rfl ?_
  refine cU_cv (va_runIN (As := []) (rest := [.ref (sk_ad G 47), .ref (sk_ad G 0)]) S (c_Parting_init l G (fun x q h => (uB_o (by omega)).trans ((bx_o (by omega)).trans ((uB_o (by omega)).trans ((bx_o (by omega)).trans ((uB_o (by omega)).trans ((bx_o (by omega)).trans ((uB_o (by omega)).trans ((bx_o (by omega)).trans ((uB_o (by omega)).trans ((bx_o (by omega)).trans (hB x q (by omega))))))))))))) ⟨va_cnB 0 hts gX11_init_X3_init_n46 rfl rfl rfl (hK.2.2.1 ("SkyLights", 46, yX3_init) (by decide +kernel)) hL31 (by decide +kernel) ⟨Nat.le_of_ble_eq_true rfl, Nat.le_of_ble_eq_true rfl⟩, rfl, hL32⟩ ⟨cU_blind, cU_pre hK hw⟩ rfl rfl hl.1 rfl (lv_room (Nat.le_of_ble_eq_true rfl)) (okX11_init (64, .invokespecial 46, 3) (List.mem_of_getElem? (i := 30) rfl)) ⟨Nat.le_of_ble_eq_true rfl, Nat.le_of_ble_eq_true rfl⟩) hS (fun H locs hw hS => ?_)
  refine sk_putr (b := 47) S hK hw hS kdn_0 (by omega) (T := TX11) (N := 8) rfl hI11 tyX11 tyX11_ok nmX11 5 ⟨by decide, rfl, by decide, rfl, rfl⟩ rfl rfl hin (k' := 5) rfl (by decide +kernel) (fun _ => ⟨rfl, rfl⟩) hL33 (okX11_init (67, .putfield 47, 3) (List.mem_of_getElem? (i := 31) rfl)) (fun H locs hw hS => ?_)
  refine lv_aload_n hx hb (okX11_init (70, .aload_n 0, 1) (List.mem_of_getElem? (i := 32) rfl)) rfl (lv_at hl 0 rfl) ?_
  refine sk_new (n := 54) (ci := 9) S hK hw hS (fun x q h => (uB_o (by omega)).trans ((bx_o (by omega)).trans ((uB_o (by omega)).trans ((bx_o (by omega)).trans ((uB_o (by omega)).trans ((bx_o (by omega)).trans ((uB_o (by omega)).trans ((bx_o (by omega)).trans ((uB_o (by omega)).trans ((bx_o (by omega)).trans ((uB_o (by omega)).trans ((bx_o (by omega)).trans (hB x q (by omega)))))))))))))) (C := RX9) (T := TX9) (N := 5) rfl hI9 tyX9 tyX9_ok ⟨by decide +kernel, rfl, by decide⟩ (by decide) hL34 hL35 hL36 ⟨Nat.le_of_ble_eq_true rfl, Nat.le_of_ble_eq_true rfl⟩ (okX11_init (71, .new 51, 3) (List.mem_of_getElem? (i := 33) rfl)) (fun H hw hS => ?_)
  refine lv_dup hx hb (okX11_init (74, .dup, 1) (List.mem_of_getElem? (i := 34) rfl)) rfl ?_
  refine cU_cv (va_runI (As := []) (rest := [.ref (sk_ad G 54), .ref (sk_ad G 0)]) S (c_Show_init l G (fun x q h => (uB_o (by omega)).trans ((bx_o (by omega)).trans ((uB_o (by omega)).trans ((bx_o (by omega)).trans ((uB_o (by omega)).trans ((bx_o (by omega)).trans ((uB_o (by omega)).trans ((bx_o (by omega)).trans ((uB_o (by omega)).trans ((bx_o (by omega)).trans ((uB_o (by omega)).trans ((bx_o (by omega)).trans (hB x q (by omega))))))))))))))) (cwI 0 hts gX11_init_X9_init rfl rfl rfl hL36 hL37 hL38 rfl (by decide +kernel) ⟨Nat.le_of_ble_eq_true rfl, Nat.le_of_ble_eq_true rfl⟩) ⟨cU_blind, cU_pre hK hw⟩ rfl rfl hl.1 rfl (lv_room (Nat.le_of_ble_eq_true rfl)) (okX11_init (75, .invokespecial 53, 3) (List.mem_of_getElem? (i := 35) rfl)) ⟨Nat.le_of_ble_eq_true rfl, Nat.le_of_ble_eq_true rfl⟩) hS (fun H locs hw hS => ?_)
  refine sk_putr (b := 54) S hK hw hS kdn_0 (by omega) (T := TX11) (N := 8) rfl hI11 tyX11 tyX11_ok nmX11 6 ⟨by decide, rfl, by decide, rfl, rfl⟩ rfl rfl hin (k' := 6) rfl (by decide +kernel) (fun _ => ⟨rfl, rfl⟩) hL39 (okX11_init (78, .putfield 54, 3) (List.mem_of_getElem? (i := 36) rfl)) (fun H locs hw hS => ?_)
  refine lv_aload_n hx hb (okX11_init (81, .aload_n 0, 1) (List.mem_of_getElem? (i := 37) rfl)) rfl (lv_at hl 0 rfl) ?_
  refine sk_new (n := 149) (ci := 1) S hK hw hS (fun x q h => (uB_o (by omega)).trans ((bx_o (by omega)).trans ((uB_o (by omega)).trans ((bx_o (by omega)).trans ((uB_o (by omega)).trans ((bx_o (by omega)).trans ((uB_o (by omega)).trans ((bx_o (by omega)).trans ((uB_o (by omega)).trans ((bx_o (by omega)).trans ((uB_o (by omega)).trans ((bx_o (by omega)).trans ((uB_o (by omega)).trans ((bx_o (by omega)).trans (hB x q (by omega)))))))))))))))) (C := RX1) (T := TX1) (N := 7) rfl hI1 tyX1 tyX1_ok ⟨by decide +kernel, rfl, by decide⟩ (by decide) hL40 hL41 hL42 ⟨Nat.le_of_ble_eq_true rfl, Nat.le_of_ble_eq_true rfl⟩ (okX11_init (82, .new 58, 3) (List.mem_of_getElem? (i := 38) rfl)) (fun H hw hS => ?_)
  refine lv_dup hx hb (okX11_init (85, .dup, 1) (List.mem_of_getElem? (i := 39) rfl)) rfl ?_
  refine cU_cv (va_runI (As := []) (rest := [.ref (sk_ad G 149), .ref (sk_ad G 0)]) S (c_Foreign_init l G (fun x q h => (uB_o (by omega)).trans ((bx_o (by omega)).trans ((uB_o (by omega)).trans ((bx_o (by omega)).trans ((uB_o (by omega)).trans ((bx_o (by omega)).trans ((uB_o (by omega)).trans ((bx_o (by omega)).trans ((uB_o (by omega)).trans ((bx_o (by omega)).trans ((uB_o (by omega)).trans ((bx_o (by omega)).trans ((uB_o (by omega)).trans ((bx_o (by omega)).trans (hB x q (by omega))))))))))))))))) (cwI 0 hts gX11_init_X1_init rfl rfl rfl hL42 hL43 hL44 rfl (by decide +kernel) ⟨Nat.le_of_ble_eq_true rfl, Nat.le_of_ble_eq_true rfl⟩) ⟨cU_blind, cU_pre hK hw⟩ rfl rfl hl.1 rfl (lv_room (Nat.le_of_ble_eq_true rfl)) (okX11_init (86, .invokespecial 60, 3) (List.mem_of_getElem? (i := 40) rfl)) ⟨Nat.le_of_ble_eq_true rfl, Nat.le_of_ble_eq_true rfl⟩) hS (fun H locs hw hS => ?_)
  refine sk_putr (b := 149) S hK hw hS kdn_0 (by omega) (T := TX11) (N := 8) rfl hI11 tyX11 tyX11_ok nmX11 7 ⟨by decide, rfl, by decide, rfl, rfl⟩ rfl rfl hin (k' := 7) rfl (by decide +kernel) (fun _ => ⟨rfl, rfl⟩) hL45 (okX11_init (89, .putfield 61, 3) (List.mem_of_getElem? (i := 41) rfl)) (fun H locs hw hS => ?_)
  have hfin : cw G (158) (bx B 0 158) H := by
    have hother : ∀ i : Nat, (i : Int) < 158 → (i : Int) ≠ 0 → ∀ q : Int, (uB (bx (uB (bx (uB (bx (uB (bx (uB (bx (uB (bx (uB (bx (uB (bx (B) 1 4) 0 0) 4 36) 0 1) 36 37) 0 2) 37 44) 0 3) 44 47) 0 4) 47 54) 0 5) 54 149) 0 6) 149 158) 0 7) i q = bx B 0 158 i q := by
      intro i hi e q 
      by_cases e9 : (i : Int) < 0
      · exact ((uB_o (by omega)).trans ((bx_o (by omega)).trans ((uB_o (by omega)).trans ((bx_o (by omega)).trans ((uB_o (by omega)).trans ((bx_o (by omega)).trans ((uB_o (by omega)).trans ((bx_o (by omega)).trans ((uB_o (by omega)).trans ((bx_o (by omega)).trans ((uB_o (by omega)).trans ((bx_o (by omega)).trans ((uB_o (by omega)).trans ((bx_o (by omega)).trans ((uB_o (by omega)).trans ((bx_o (by omega)).trans (rfl))))))))))))))))).trans (bx_o (by omega)).symm
      · rcases (by omega : (1 ≤ (i : Int) ∧ (i : Int) < 4) ∨ (4 ≤ (i : Int) ∧ (i : Int) < 36) ∨ (36 ≤ (i : Int) ∧ (i : Int) < 37) ∨ (37 ≤ (i : Int) ∧ (i : Int) < 44) ∨ (44 ≤ (i : Int) ∧ (i : Int) < 47) ∨ (47 ≤ (i : Int) ∧ (i : Int) < 54) ∨ (54 ≤ (i : Int) ∧ (i : Int) < 149) ∨ (149 ≤ (i : Int) ∧ (i : Int) < 158)) with h | h | h | h | h | h | h | h
        · exact (uB_m (bx_m (uB_m (bx_m (uB_m (bx_m (uB_m (bx_m (uB_m (bx_m (uB_m (bx_m (uB_m (bx_m (uB_m (bx_h (by omega))))))))))))))))).trans (bx_h (by omega)).symm
        · exact (uB_m (bx_m (uB_m (bx_m (uB_m (bx_m (uB_m (bx_m (uB_m (bx_m (uB_m (bx_m (uB_m (bx_h (by omega))))))))))))))).trans (bx_h (by omega)).symm
        · exact (uB_m (bx_m (uB_m (bx_m (uB_m (bx_m (uB_m (bx_m (uB_m (bx_m (uB_m (bx_h (by omega))))))))))))).trans (bx_h (by omega)).symm
        · exact (uB_m (bx_m (uB_m (bx_m (uB_m (bx_m (uB_m (bx_m (uB_m (bx_h (by omega))))))))))).trans (bx_h (by omega)).symm
        · exact (uB_m (bx_m (uB_m (bx_m (uB_m (bx_m (uB_m (bx_h (by omega))))))))).trans (bx_h (by omega)).symm
        · exact (uB_m (bx_m (uB_m (bx_m (uB_m (bx_h (by omega))))))).trans (bx_h (by omega)).symm
        · exact (uB_m (bx_m (uB_m (bx_h (by omega))))).trans (bx_h (by omega)).symm
        · exact (uB_m (bx_h (by omega))).trans (bx_h (by omega)).symm
    refine hw.cong (fun i hi q hq => ?_) (fun i hi q => ?_)
    · by_cases e : (i : Int) = 0
      · unfold isrs at hq; rw [e, kdn_0] at hq
        rw [e]
        rcases isr_11 q hq with h | h | h | h | h | h | h | h
        · subst h; exact (uB_m (bx_m (uB_m (bx_m (uB_m (bx_m (uB_m (bx_m (uB_m (bx_m (uB_m (bx_m (uB_m (bx_m (uB_h rfl rfl))))))))))))))).trans (bx_h (by omega)).symm
        · subst h; exact (uB_m (bx_m (uB_m (bx_m (uB_m (bx_m (uB_m (bx_m (uB_m (bx_m (uB_m (bx_m (uB_h rfl rfl))))))))))))).trans (bx_h (by omega)).symm
        · subst h; exact (uB_m (bx_m (uB_m (bx_m (uB_m (bx_m (uB_m (bx_m (uB_m (bx_m (uB_h rfl rfl))))))))))).trans (bx_h (by omega)).symm
        · subst h; exact (uB_m (bx_m (uB_m (bx_m (uB_m (bx_m (uB_m (bx_m (uB_h rfl rfl))))))))).trans (bx_h (by omega)).symm
        · subst h; exact (uB_m (bx_m (uB_m (bx_m (uB_m (bx_m (uB_h rfl rfl))))))).trans (bx_h (by omega)).symm
        · subst h; exact (uB_m (bx_m (uB_m (bx_m (uB_h rfl rfl))))).trans (bx_h (by omega)).symm
        · subst h; exact (uB_m (bx_m (uB_h rfl rfl))).trans (bx_h (by omega)).symm
        · subst h; exact (uB_h rfl rfl).trans (bx_h (by omega)).symm
      · exact hother i (by omega) e q
    · by_cases e : (i : Int) = 0
      · right; unfold I0; rw [e, kdn_0]; try rfl
      · left; exact hother i (by omega) e q
  refine W.widen (k := 157) (n := 5414) (by decide) (by decide) ?_
  exact cU_ret hx hb hr0 hlocks hK hfin hS (okX11_init (92, .return_, 1) (List.mem_of_getElem? (i := 42) rfl))
set_option maxHeartbeats 4000000 in
set_option maxRecDepth 100000 in
theorem c_Mo_init (l : Launch) (G : sk_G) {B : Int → Int → Bool} (hB : ∀ x k, ((159 : Nat) : Int) ≤ x → B x k = false) : Met l yX12_init wsX12_init ({ frames := 1, cells := 39, slots := 3184, locals := 12 }) (va_Pc [.ref (sk_ad G 158)] (cU G (159) B)) (cQ G (198) (bx B 158 198)) 39 3184 (sk_A G) := by
  refine Met.ofW (cc := cX12_init) (maxL := 1) (ret := none) (by decide) rfl ?_
  intro p e s m args below meth c s₁ B9 hml hv
  obtain ⟨rfl, hU, hK⟩ := hv
  have hx := B9.exec
  have hb := B9.bytes
  have hr0 := B9.returns
  have hts := atoms_spec (ws := wsX12_init) B9.pre
  have hown : s.vm.findClass RX12 = some m.cls := findClass_of_methodNamed B9.named
  have hlocks := B9.notSynchronized
  have hin : meth.name = "<init>" := (name_of_methodNamed B9.named B9.method).1
  have S : CallFix p m c cX12_init 1 s ([.ref (sk_ad G 158)].toArray) wsX12_init RX12 := ⟨hx, hb, hml, hown, hts⟩
  have hL0 := hts (.methodLink RX12 1 objectInit) (by decide +kernel)
  have hL1 := hts (.instanceMethod objectInit) (by decide +kernel)
  have hL2 := hts (.code objectInit ⟨#[0xb1]⟩ 1 none) (by decide +kernel)
  have hL3 := hts (.arrayClass .int) (by decide +kernel)
  have hL4 := hts (.fieldLink RX12 7 "SkyLightsModel" "padX" "[I") (by decide +kernel)
  have hL5 := hts (.fieldLink RX12 13 "SkyLightsModel" "padY" "[I") (by decide +kernel)
  have hL6 := hts (.fieldLink RX12 16 "SkyLightsModel" "charge" "[I") (by decide +kernel)
  have hL7 := hts (.fieldLink RX12 19 "SkyLightsModel" "size" "[I") (by decide +kernel)
  have hL8 := hts (.fieldLink RX12 22 "SkyLightsModel" "pointX" "[I") (by decide +kernel)
  have hL9 := hts (.fieldLink RX12 25 "SkyLightsModel" "pointY" "[I") (by decide +kernel)
  have hL10 := hts (.fieldLink RX12 28 "SkyLightsModel" "pointZ" "[I") (by decide +kernel)
  have hL11 := hts (.fieldLink RX12 31 "SkyLightsModel" "worth" "[I") (by decide +kernel)
  have hL12 := hts (.fieldLink RX12 34 "SkyLightsModel" "gap" "I") (by decide +kernel)
  have hL13 := hts (.fieldLink RX12 38 "SkyLightsModel" "tape" "[I") (by decide +kernel)
  have hL14 := hts (.fieldLink RX12 41 "SkyLightsModel" "fromX" "[I") (by decide +kernel)
  have hL15 := hts (.fieldLink RX12 44 "SkyLightsModel" "fromY" "[I") (by decide +kernel)
  have hL16 := hts (.fieldLink RX12 47 "SkyLightsModel" "fromZ" "[I") (by decide +kernel)
  have hL17 := hts (.fieldLink RX12 50 "SkyLightsModel" "toX" "[I") (by decide +kernel)
  have hL18 := hts (.fieldLink RX12 53 "SkyLightsModel" "toY" "[I") (by decide +kernel)
  have hL19 := hts (.fieldLink RX12 56 "SkyLightsModel" "toZ" "[I") (by decide +kernel)
  have hL20 := hts (.fieldLink RX12 59 "SkyLightsModel" "wait" "[I") (by decide +kernel)
  have hL21 := hts (.fieldLink RX12 62 "SkyLightsModel" "ticksOf" "[I") (by decide +kernel)
  have hL22 := hts (.fieldLink RX12 65 "SkyLightsModel" "manyOf" "[I") (by decide +kernel)
  have hL23 := hts (.fieldLink RX12 68 "SkyLightsModel" "goes" "[I") (by decide +kernel)
  have hL24 := hts (.fieldLink RX12 71 "SkyLightsModel" "way" "[I") (by decide +kernel)
  have hL25 := hts (.fieldLink RX12 74 "SkyLightsModel" "most" "[I") (by decide +kernel)
  have hL26 := hts (.fieldLink RX12 77 "SkyLightsModel" "goesTo" "[I") (by decide +kernel)
  have hL27 := hts (.fieldLink RX12 80 "SkyLightsModel" "oldX" "[I") (by decide +kernel)
  have hL28 := hts (.fieldLink RX12 83 "SkyLightsModel" "oldY" "[I") (by decide +kernel)
  have hL29 := hts (.fieldLink RX12 86 "SkyLightsModel" "oldZ" "[I") (by decide +kernel)
  have hL30 := hts (.fieldLink RX12 89 "SkyLightsModel" "before" "[I") (by decide +kernel)
  have hL31 := hts (.fieldLink RX12 92 "SkyLightsModel" "sceneFigure" "[I") (by decide +kernel)
  have hL32 := hts (.fieldLink RX12 95 "SkyLightsModel" "sceneTicks" "[I") (by decide +kernel)
  have hL33 := hts (.fieldLink RX12 98 "SkyLightsModel" "sceneHold" "[I") (by decide +kernel)
  have hL34 := hts (.fieldLink RX12 101 "SkyLightsModel" "sceneCue" "[I") (by decide +kernel)
  have hL35 := hts (.fieldLink RX12 104 "SkyLightsModel" "standsAt" "[I") (by decide +kernel)
  have hL36 := hts (.fieldLink RX12 107 "SkyLightsModel" "landsOn" "[I") (by decide +kernel)
  have hL37 := hts (.fieldLink RX12 110 "SkyLightsModel" "margin" "I") (by decide +kernel)
  have hL38 := hts (.fieldLink RX12 113 "SkyLightsModel" "markFlyer" "[I") (by decide +kernel)
  have hL39 := hts (.fieldLink RX12 116 "SkyLightsModel" "markTick" "[I") (by decide +kernel)
  have hL40 := hts (.fieldLink RX12 119 "SkyLightsModel" "markX" "[I") (by decide +kernel)
  have hL41 := hts (.fieldLink RX12 122 "SkyLightsModel" "markY" "[I") (by decide +kernel)
  have hL42 := hts (.fieldLink RX12 125 "SkyLightsModel" "markZ" "[I") (by decide +kernel)
  have hL43 := hts (.fieldLink RX12 128 "SkyLightsModel" "now" "[I") (by decide +kernel)
  have hL44 := hts (.fieldLink RX12 131 "SkyLightsModel" "then" "[I") (by decide +kernel)
  have hL45 := hts (.fieldLink RX12 134 "SkyLightsModel" "whoFirst" "I") (by decide +kernel)
  have hL46 := hts (.fieldLink RX12 137 "SkyLightsModel" "whoSecond" "I") (by decide +kernel)
  have hI12 : ∀ w ∈ u_ws RX12 TX12 53, w ∈ wsX12_init := by decide +kernel
  have hS : va_S (sk_A G) s.heap s.heap [] := va_S.rf
  have hw := hU
  have hl := lv_entry ([.ref (sk_ad G 158)]) (n := 1) (Nat.le_of_ble_eq_true rfl)
  rw [lg_entry_eq]
  generalize (lg_sl ([.ref (sk_ad G 158)]) ++ List.replicate (1 - (lg_sl ([.ref (sk_ad G 158)])).length) Slot.unset).toArray = ls at hl ⊢
  have hl : lv_has ls 1 [(0, .ref (sk_ad G 158))] := hl
  refine lv_aload_n hx hb (okX12_init (0, .aload_n 0, 1) (List.mem_of_getElem? (i := 0) rfl)) rfl (lv_at hl 0 rfl) ?_
  refine W.objInit hx hb hown hL0 hL1 hL2 rfl (by rw [hml]; exact hl.1) rfl (okX12_init (1, .invokespecial 1, 3) (List.mem_of_getElem? (i := 1) rfl)) (Nat.le_of_ble_eq_true rfl) (Nat.le_of_ble_eq_true rfl) ?_
  refine W.eq (g2 := F0 m 4 ls []) rfl ?_
  refine lv_aload_n hx hb (okX12_init (4, .aload_n 0, 1) (List.mem_of_getElem? (i := 2) rfl)) rfl (lv_at hl 0 rfl) ?_
  refine lv_bipush (v := iI 10) hx hb (okX12_init (5, .bipush 10, 2) (List.mem_of_getElem? (i := 3) rfl)) (by decide +kernel) ?_
  refine sk_newI (n := 159) (N := 10) S hK hw hS (fun x q h => hB x q (by omega)) (by decide +kernel) (by decide +kernel) rfl (by decide) hL3 ⟨Nat.le_of_ble_eq_true rfl, Nat.le_of_ble_eq_true rfl⟩ (okX12_init (7, .newarray .int, 2) (List.mem_of_getElem? (i := 4) rfl)) (fun H hw hS => ?_)
  refine sk_putr (b := 159) S hK hw hS kdn_158 (by omega) (T := TX12) (N := 53) rfl hI12 tyX12 tyX12_ok nmX12 0 ⟨by decide, rfl, by decide, rfl, rfl⟩ rfl rfl hin (k' := 0) rfl (by decide +kernel) (fun _ => ⟨rfl, rfl⟩) hL4 (okX12_init (9, .putfield 7, 3) (List.mem_of_getElem? (i := 5) rfl)) (fun H locs hw hS => ?_)
  refine lv_aload_n hx hb (okX12_init (12, .aload_n 0, 1) (List.mem_of_getElem? (i := 6) rfl)) rfl (lv_at hl 0 rfl) ?_
  refine lv_bipush (v := iI 10) hx hb (okX12_init (13, .bipush 10, 2) (List.mem_of_getElem? (i := 7) rfl)) (by decide +kernel) ?_
  refine sk_newI (n := 160) (N := 10) S hK hw hS (fun x q h => (uB_o (by omega)).trans (hB x q (by omega))) (by decide +kernel) (by decide +kernel) rfl (by decide) hL3 ⟨Nat.le_of_ble_eq_true rfl, Nat.le_of_ble_eq_true rfl⟩ (okX12_init (15, .newarray .int, 2) (List.mem_of_getElem? (i := 8) rfl)) (fun H hw hS => ?_)
  refine sk_putr (b := 160) S hK hw hS kdn_158 (by omega) (T := TX12) (N := 53) rfl hI12 tyX12 tyX12_ok nmX12 1 ⟨by decide, rfl, by decide, rfl, rfl⟩ rfl rfl hin (k' := 1) rfl (by decide +kernel) (fun _ => ⟨rfl, rfl⟩) hL5 (okX12_init (17, .putfield 13, 3) (List.mem_of_getElem? (i := 9) rfl)) (fun H locs hw hS => ?_)
  refine lv_aload_n hx hb (okX12_init (20, .aload_n 0, 1) (List.mem_of_getElem? (i := 10) rfl)) rfl (lv_at hl 0 rfl) ?_
  refine lv_bipush (v := iI 10) hx hb (okX12_init (21, .bipush 10, 2) (List.mem_of_getElem? (i := 11) rfl)) (by decide +kernel) ?_
  refine sk_newI (n := 161) (N := 10) S hK hw hS (fun x q h => (uB_o (by omega)).trans ((uB_o (by omega)).trans (hB x q (by omega)))) (by decide +kernel) (by decide +kernel) rfl (by decide) hL3 ⟨Nat.le_of_ble_eq_true rfl, Nat.le_of_ble_eq_true rfl⟩ (okX12_init (23, .newarray .int, 2) (List.mem_of_getElem? (i := 12) rfl)) (fun H hw hS => ?_)
  refine sk_putr (b := 161) S hK hw hS kdn_158 (by omega) (T := TX12) (N := 53) rfl hI12 tyX12 tyX12_ok nmX12 2 ⟨by decide, rfl, by decide, rfl, rfl⟩ rfl rfl hin (k' := 2) rfl (by decide +kernel) (fun _ => ⟨rfl, rfl⟩) hL6 (okX12_init (25, .putfield 16, 3) (List.mem_of_getElem? (i := 13) rfl)) (fun H locs hw hS => ?_)
  refine lv_aload_n hx hb (okX12_init (28, .aload_n 0, 1) (List.mem_of_getElem? (i := 14) rfl)) rfl (lv_at hl 0 rfl) ?_
  refine lv_bipush (v := iI 8) hx hb (okX12_init (29, .bipush 8, 2) (List.mem_of_getElem? (i := 15) rfl)) (by decide +kernel) ?_
  refine sk_newI (n := 162) (N := 8) S hK hw hS (fun x q h => (uB_o (by omega)).trans ((uB_o (by omega)).trans ((uB_o (by omega)).trans (hB x q (by omega))))) (by decide +kernel) (by decide +kernel) rfl (by decide) hL3 ⟨Nat.le_of_ble_eq_true rfl, Nat.le_of_ble_eq_true rfl⟩ (okX12_init (31, .newarray .int, 2) (List.mem_of_getElem? (i := 16) rfl)) (fun H hw hS => ?_)
  refine sk_putr (b := 162) S hK hw hS kdn_158 (by omega) (T := TX12) (N := 53) rfl hI12 tyX12 tyX12_ok nmX12 3 ⟨by decide, rfl, by decide, rfl, rfl⟩ rfl rfl hin (k' := 3) rfl (by decide +kernel) (fun _ => ⟨rfl, rfl⟩) hL7 (okX12_init (33, .putfield 19, 3) (List.mem_of_getElem? (i := 17) rfl)) (fun H locs hw hS => ?_)
  refine lv_aload_n hx hb (okX12_init (36, .aload_n 0, 1) (List.mem_of_getElem? (i := 18) rfl)) rfl (lv_at hl 0 rfl) ?_
  refine lv_bipush (v := iI 80) hx hb (okX12_init (37, .bipush 80, 2) (List.mem_of_getElem? (i := 19) rfl)) (by decide +kernel) ?_
  refine sk_newI (n := 163) (N := 80) S hK hw hS (fun x q h => (uB_o (by omega)).trans ((uB_o (by omega)).trans ((uB_o (by omega)).trans ((uB_o (by omega)).trans (hB x q (by omega)))))) (by decide +kernel) (by decide +kernel) rfl (by decide) hL3 ⟨Nat.le_of_ble_eq_true rfl, Nat.le_of_ble_eq_true rfl⟩ (okX12_init (39, .newarray .int, 2) (List.mem_of_getElem? (i := 20) rfl)) (fun H hw hS => ?_)
  refine sk_putr (b := 163) S hK hw hS kdn_158 (by omega) (T := TX12) (N := 53) rfl hI12 tyX12 tyX12_ok nmX12 4 ⟨by decide, rfl, by decide, rfl, rfl⟩ rfl rfl hin (k' := 4) rfl (by decide +kernel) (fun _ => ⟨rfl, rfl⟩) hL8 (okX12_init (41, .putfield 22, 3) (List.mem_of_getElem? (i := 21) rfl)) (fun H locs hw hS => ?_)
  refine lv_aload_n hx hb (okX12_init (44, .aload_n 0, 1) (List.mem_of_getElem? (i := 22) rfl)) rfl (lv_at hl 0 rfl) ?_
  refine lv_bipush (v := iI 80) hx hb (okX12_init (45, .bipush 80, 2) (List.mem_of_getElem? (i := 23) rfl)) (by decide +kernel) ?_
  refine sk_newI (n := 164) (N := 80) S hK hw hS (fun x q h => (uB_o (by omega)).trans ((uB_o (by omega)).trans ((uB_o (by omega)).trans ((uB_o (by omega)).trans ((uB_o (by omega)).trans (hB x q (by omega))))))) (by decide +kernel) (by decide +kernel) rfl (by decide) hL3 ⟨Nat.le_of_ble_eq_true rfl, Nat.le_of_ble_eq_true rfl⟩ (okX12_init (47, .newarray .int, 2) (List.mem_of_getElem? (i := 24) rfl)) (fun H hw hS => ?_)
  refine sk_putr (b := 164) S hK hw hS kdn_158 (by omega) (T := TX12) (N := 53) rfl hI12 tyX12 tyX12_ok nmX12 5 ⟨by decide, rfl, by decide, rfl, rfl⟩ rfl rfl hin (k' := 5) rfl (by decide +kernel) (fun _ => ⟨rfl, rfl⟩) hL9 (okX12_init (49, .putfield 25, 3) (List.mem_of_getElem? (i := 25) rfl)) (fun H locs hw hS => ?_)
  refine lv_aload_n hx hb (okX12_init (52, .aload_n 0, 1) (List.mem_of_getElem? (i := 26) rfl)) rfl (lv_at hl 0 rfl) ?_
  refine lv_bipush (v := iI 80) hx hb (okX12_init (53, .bipush 80, 2) (List.mem_of_getElem? (i := 27) rfl)) (by decide +kernel) ?_
  refine sk_newI (n := 165) (N := 80) S hK hw hS (fun x q h => (uB_o (by omega)).trans ((uB_o (by omega)).trans ((uB_o (by omega)).trans ((uB_o (by omega)).trans ((uB_o (by omega)).trans ((uB_o (by omega)).trans (hB x q (by omega)))))))) (by decide +kernel) (by decide +kernel) rfl (by decide) hL3 ⟨Nat.le_of_ble_eq_true rfl, Nat.le_of_ble_eq_true rfl⟩ (okX12_init (55, .newarray .int, 2) (List.mem_of_getElem? (i := 28) rfl)) (fun H hw hS => ?_)
  refine sk_putr (b := 165) S hK hw hS kdn_158 (by omega) (T := TX12) (N := 53) rfl hI12 tyX12 tyX12_ok nmX12 6 ⟨by decide, rfl, by decide, rfl, rfl⟩ rfl rfl hin (k' := 6) rfl (by decide +kernel) (fun _ => ⟨rfl, rfl⟩) hL10 (okX12_init (57, .putfield 28, 3) (List.mem_of_getElem? (i := 29) rfl)) (fun H locs hw hS => ?_)
  refine lv_aload_n hx hb (okX12_init (60, .aload_n 0, 1) (List.mem_of_getElem? (i := 30) rfl)) rfl (lv_at hl 0 rfl) ?_
  refine lv_bipush (v := iI 80) hx hb (okX12_init (61, .bipush 80, 2) (List.mem_of_getElem? (i := 31) rfl)) (by decide +kernel) ?_
  refine sk_newI (n := 166) (N := 80) S hK hw hS (fun x q h => (uB_o (by omega)).trans ((uB_o (by omega)).trans ((uB_o (by omega)).trans ((uB_o (by omega)).trans ((uB_o (by omega)).trans ((uB_o (by omega)).trans ((uB_o (by omega)).trans (hB x q (by omega))))))))) (by decide +kernel) (by decide +kernel) rfl (by decide) hL3 ⟨Nat.le_of_ble_eq_true rfl, Nat.le_of_ble_eq_true rfl⟩ (okX12_init (63, .newarray .int, 2) (List.mem_of_getElem? (i := 32) rfl)) (fun H hw hS => ?_)
  refine sk_putr (b := 166) S hK hw hS kdn_158 (by omega) (T := TX12) (N := 53) rfl hI12 tyX12 tyX12_ok nmX12 7 ⟨by decide, rfl, by decide, rfl, rfl⟩ rfl rfl hin (k' := 7) rfl (by decide +kernel) (fun _ => ⟨rfl, rfl⟩) hL11 (okX12_init (65, .putfield 31, 3) (List.mem_of_getElem? (i := 33) rfl)) (fun H locs hw hS => ?_)
  refine lv_aload_n hx hb (okX12_init (68, .aload_n 0, 1) (List.mem_of_getElem? (i := 34) rfl)) rfl (lv_at hl 0 rfl) ?_
  refine lv_bipush (v := iI 10) hx hb (okX12_init (69, .bipush 10, 2) (List.mem_of_getElem? (i := 35) rfl)) (by decide +kernel) ?_
  refine sk_put S hK ⟨hw, hS⟩ kdn_158 (by omega) (C := RX12) (T := TX12) (N := 53) rfl hI12 tyX12 tyX12_ok nmX12 10 ⟨by decide, rfl, by decide, rfl⟩ rfl rfl (k' := 10) rfl (by decide) ⟨rfl, rfl⟩ hL12 (okX12_init (71, .putfield 34, 3) (List.mem_of_getElem? (i := 36) rfl)) (fun H locs hwp => ?_)
  have hS := hwp.2
  have hw := cw.put hwp.1 (by decide +kernel) (fun j hj i hi => by unfold isrs; rw [hi, kdn_158]; rw [show j = 10 by omega]; rfl)
  refine lv_aload_n hx hb (okX12_init (74, .aload_n 0, 1) (List.mem_of_getElem? (i := 37) rfl)) rfl (lv_at hl 0 rfl) ?_
  refine lv_sipush (v := iI 300) hx hb (okX12_init (75, .sipush 300, 3) (List.mem_of_getElem? (i := 38) rfl)) (by decide +kernel) ?_
  refine sk_newI (n := 167) (N := 300) S hK hw hS (fun x q h => (uB_o (by omega)).trans ((uB_o (by omega)).trans ((uB_o (by omega)).trans ((uB_o (by omega)).trans ((uB_o (by omega)).trans ((uB_o (by omega)).trans ((uB_o (by omega)).trans ((uB_o (by omega)).trans ((uB_o (by omega)).trans (hB x q (by omega))))))))))) (by decide +kernel) (by decide +kernel) rfl (by decide) hL3 ⟨Nat.le_of_ble_eq_true rfl, Nat.le_of_ble_eq_true rfl⟩ (okX12_init (78, .newarray .int, 2) (List.mem_of_getElem? (i := 39) rfl)) (fun H hw hS => ?_)
  refine sk_putr (b := 167) S hK hw hS kdn_158 (by omega) (T := TX12) (N := 53) rfl hI12 tyX12 tyX12_ok nmX12 14 ⟨by decide, rfl, by decide, rfl, rfl⟩ rfl rfl hin (k' := 14) rfl (by decide +kernel) (fun _ => ⟨rfl, rfl⟩) hL13 (okX12_init (80, .putfield 38, 3) (List.mem_of_getElem? (i := 40) rfl)) (fun H locs hw hS => ?_)
  refine lv_aload_n hx hb (okX12_init (83, .aload_n 0, 1) (List.mem_of_getElem? (i := 41) rfl)) rfl (lv_at hl 0 rfl) ?_
  refine lv_bipush (v := iI 20) hx hb (okX12_init (84, .bipush 20, 2) (List.mem_of_getElem? (i := 42) rfl)) (by decide +kernel) ?_
  refine sk_newI (n := 168) (N := 20) S hK hw hS (fun x q h => (uB_o (by omega)).trans ((uB_o (by omega)).trans ((uB_o (by omega)).trans ((uB_o (by omega)).trans ((uB_o (by omega)).trans ((uB_o (by omega)).trans ((uB_o (by omega)).trans ((uB_o (by omega)).trans ((uB_o (by omega)).trans ((uB_o (by omega)).trans (hB x q (by omega)))))))))))) (by decide +kernel) (by decide +kernel) rfl (by decide) hL3 ⟨Nat.le_of_ble_eq_true rfl, Nat.le_of_ble_eq_true rfl⟩ (okX12_init (86, .newarray .int, 2) (List.mem_of_getElem? (i := 43) rfl)) (fun H hw hS => ?_)
  refine sk_putr (b := 168) S hK hw hS kdn_158 (by omega) (T := TX12) (N := 53) rfl hI12 tyX12 tyX12_ok nmX12 18 ⟨by decide, rfl, by decide, rfl, rfl⟩ rfl rfl hin (k' := 18) rfl (by decide +kernel) (fun _ => ⟨rfl, rfl⟩) hL14 (okX12_init (88, .putfield 41, 3) (List.mem_of_getElem? (i := 44) rfl)) (fun H locs hw hS => ?_)
  refine lv_aload_n hx hb (okX12_init (91, .aload_n 0, 1) (List.mem_of_getElem? (i := 45) rfl)) rfl (lv_at hl 0 rfl) ?_
  refine lv_bipush (v := iI 20) hx hb (okX12_init (92, .bipush 20, 2) (List.mem_of_getElem? (i := 46) rfl)) (by decide +kernel) ?_
  refine sk_newI (n := 169) (N := 20) S hK hw hS (fun x q h => (uB_o (by omega)).trans ((uB_o (by omega)).trans ((uB_o (by omega)).trans ((uB_o (by omega)).trans ((uB_o (by omega)).trans ((uB_o (by omega)).trans ((uB_o (by omega)).trans ((uB_o (by omega)).trans ((uB_o (by omega)).trans ((uB_o (by omega)).trans ((uB_o (by omega)).trans (hB x q (by omega))))))))))))) (by decide +kernel) (by decide +kernel) rfl (by decide) hL3 ⟨Nat.le_of_ble_eq_true rfl, Nat.le_of_ble_eq_true rfl⟩ (okX12_init (94, .newarray .int, 2) (List.mem_of_getElem? (i := 47) rfl)) (fun H hw hS => ?_)
  refine sk_putr (b := 169) S hK hw hS kdn_158 (by omega) (T := TX12) (N := 53) rfl hI12 tyX12 tyX12_ok nmX12 19 ⟨by decide, rfl, by decide, rfl, rfl⟩ rfl rfl hin (k' := 19) rfl (by decide +kernel) (fun _ => ⟨rfl, rfl⟩) hL15 (okX12_init (96, .putfield 44, 3) (List.mem_of_getElem? (i := 48) rfl)) (fun H locs hw hS => ?_)
  refine lv_aload_n hx hb (okX12_init (99, .aload_n 0, 1) (List.mem_of_getElem? (i := 49) rfl)) rfl (lv_at hl 0 rfl) ?_
  refine lv_bipush (v := iI 20) hx hb (okX12_init (100, .bipush 20, 2) (List.mem_of_getElem? (i := 50) rfl)) (by decide +kernel) ?_
  refine sk_newI (n := 170) (N := 20) S hK hw hS (fun x q h => (uB_o (by omega)).trans ((uB_o (by omega)).trans ((uB_o (by omega)).trans ((uB_o (by omega)).trans ((uB_o (by omega)).trans ((uB_o (by omega)).trans ((uB_o (by omega)).trans ((uB_o (by omega)).trans ((uB_o (by omega)).trans ((uB_o (by omega)).trans ((uB_o (by omega)).trans ((uB_o (by omega)).trans (hB x q (by omega)))))))))))))) (by decide +kernel) (by decide +kernel) rfl (by decide) hL3 ⟨Nat.le_of_ble_eq_true rfl, Nat.le_of_ble_eq_true rfl⟩ (okX12_init (102, .newarray .int, 2) (List.mem_of_getElem? (i := 51) rfl)) (fun H hw hS => ?_)
  refine sk_putr (b := 170) S hK hw hS kdn_158 (by omega) (T := TX12) (N := 53) rfl hI12 tyX12 tyX12_ok nmX12 20 ⟨by decide, rfl, by decide, rfl, rfl⟩ rfl rfl hin (k' := 20) rfl (by decide +kernel) (fun _ => ⟨rfl, rfl⟩) hL16 (okX12_init (104, .putfield 47, 3) (List.mem_of_getElem? (i := 52) rfl)) (fun H locs hw hS => ?_)
  refine lv_aload_n hx hb (okX12_init (107, .aload_n 0, 1) (List.mem_of_getElem? (i := 53) rfl)) rfl (lv_at hl 0 rfl) ?_
  refine lv_bipush (v := iI 20) hx hb (okX12_init (108, .bipush 20, 2) (List.mem_of_getElem? (i := 54) rfl)) (by decide +kernel) ?_
  refine sk_newI (n := 171) (N := 20) S hK hw hS (fun x q h => (uB_o (by omega)).trans ((uB_o (by omega)).trans ((uB_o (by omega)).trans ((uB_o (by omega)).trans ((uB_o (by omega)).trans ((uB_o (by omega)).trans ((uB_o (by omega)).trans ((uB_o (by omega)).trans ((uB_o (by omega)).trans ((uB_o (by omega)).trans ((uB_o (by omega)).trans ((uB_o (by omega)).trans ((uB_o (by omega)).trans (hB x q (by omega))))))))))))))) (by decide +kernel) (by decide +kernel) rfl (by decide) hL3 ⟨Nat.le_of_ble_eq_true rfl, Nat.le_of_ble_eq_true rfl⟩ (okX12_init (110, .newarray .int, 2) (List.mem_of_getElem? (i := 55) rfl)) (fun H hw hS => ?_)
  refine sk_putr (b := 171) S hK hw hS kdn_158 (by omega) (T := TX12) (N := 53) rfl hI12 tyX12 tyX12_ok nmX12 21 ⟨by decide, rfl, by decide, rfl, rfl⟩ rfl rfl hin (k' := 21) rfl (by decide +kernel) (fun _ => ⟨rfl, rfl⟩) hL17 (okX12_init (112, .putfield 50, 3) (List.mem_of_getElem? (i := 56) rfl)) (fun H locs hw hS => ?_)
  refine lv_aload_n hx hb (okX12_init (115, .aload_n 0, 1) (List.mem_of_getElem? (i := 57) rfl)) rfl (lv_at hl 0 rfl) ?_
  refine lv_bipush (v := iI 20) hx hb (okX12_init (116, .bipush 20, 2) (List.mem_of_getElem? (i := 58) rfl)) (by decide +kernel) ?_
  refine sk_newI (n := 172) (N := 20) S hK hw hS (fun x q h => (uB_o (by omega)).trans ((uB_o (by omega)).trans ((uB_o (by omega)).trans ((uB_o (by omega)).trans ((uB_o (by omega)).trans ((uB_o (by omega)).trans ((uB_o (by omega)).trans ((uB_o (by omega)).trans ((uB_o (by omega)).trans ((uB_o (by omega)).trans ((uB_o (by omega)).trans ((uB_o (by omega)).trans ((uB_o (by omega)).trans ((uB_o (by omega)).trans (hB x q (by omega)))))))))))))))) (by decide +kernel) (by decide +kernel) rfl (by decide) hL3 ⟨Nat.le_of_ble_eq_true rfl, Nat.le_of_ble_eq_true rfl⟩ (okX12_init (118, .newarray .int, 2) (List.mem_of_getElem? (i := 59) rfl)) (fun H hw hS => ?_)
  refine sk_putr (b := 172) S hK hw hS kdn_158 (by omega) (T := TX12) (N := 53) rfl hI12 tyX12 tyX12_ok nmX12 22 ⟨by decide, rfl, by decide, rfl, rfl⟩ rfl rfl hin (k' := 22) rfl (by decide +kernel) (fun _ => ⟨rfl, rfl⟩) hL18 (okX12_init (120, .putfield 53, 3) (List.mem_of_getElem? (i := 60) rfl)) (fun H locs hw hS => ?_)
  refine lv_aload_n hx hb (okX12_init (123, .aload_n 0, 1) (List.mem_of_getElem? (i := 61) rfl)) rfl (lv_at hl 0 rfl) ?_
  refine lv_bipush (v := iI 20) hx hb (okX12_init (124, .bipush 20, 2) (List.mem_of_getElem? (i := 62) rfl)) (by decide +kernel) ?_
  refine sk_newI (n := 173) (N := 20) S hK hw hS (fun x q h => (uB_o (by omega)).trans ((uB_o (by omega)).trans ((uB_o (by omega)).trans ((uB_o (by omega)).trans ((uB_o (by omega)).trans ((uB_o (by omega)).trans ((uB_o (by omega)).trans ((uB_o (by omega)).trans ((uB_o (by omega)).trans ((uB_o (by omega)).trans ((uB_o (by omega)).trans ((uB_o (by omega)).trans ((uB_o (by omega)).trans ((uB_o (by omega)).trans ((uB_o (by omega)).trans (hB x q (by omega))))))))))))))))) (by decide +kernel) (by decide +kernel) rfl (by decide) hL3 ⟨Nat.le_of_ble_eq_true rfl, Nat.le_of_ble_eq_true rfl⟩ (okX12_init (126, .newarray .int, 2) (List.mem_of_getElem? (i := 63) rfl)) (fun H hw hS => ?_)
  refine sk_putr (b := 173) S hK hw hS kdn_158 (by omega) (T := TX12) (N := 53) rfl hI12 tyX12 tyX12_ok nmX12 23 ⟨by decide, rfl, by decide, rfl, rfl⟩ rfl rfl hin (k' := 23) rfl (by decide +kernel) (fun _ => ⟨rfl, rfl⟩) hL19 (okX12_init (128, .putfield 56, 3) (List.mem_of_getElem? (i := 64) rfl)) (fun H locs hw hS => ?_)
  refine lv_aload_n hx hb (okX12_init (131, .aload_n 0, 1) (List.mem_of_getElem? (i := 65) rfl)) rfl (lv_at hl 0 rfl) ?_
  refine lv_bipush (v := iI 20) hx hb (okX12_init (132, .bipush 20, 2) (List.mem_of_getElem? (i := 66) rfl)) (by decide +kernel) ?_
  refine sk_newI (n := 174) (N := 20) S hK hw hS (fun x q h => (uB_o (by omega)).trans ((uB_o (by omega)).trans ((uB_o (by omega)).trans ((uB_o (by omega)).trans ((uB_o (by omega)).trans ((uB_o (by omega)).trans ((uB_o (by omega)).trans ((uB_o (by omega)).trans ((uB_o (by omega)).trans ((uB_o (by omega)).trans ((uB_o (by omega)).trans ((uB_o (by omega)).trans ((uB_o (by omega)).trans ((uB_o (by omega)).trans ((uB_o (by omega)).trans ((uB_o (by omega)).trans (hB x q (by omega)))))))))))))))))) (by decide +kernel) (by decide +kernel) rfl (by decide) hL3 ⟨Nat.le_of_ble_eq_true rfl, Nat.le_of_ble_eq_true rfl⟩ (okX12_init (134, .newarray .int, 2) (List.mem_of_getElem? (i := 67) rfl)) (fun H hw hS => ?_)
  refine sk_putr (b := 174) S hK hw hS kdn_158 (by omega) (T := TX12) (N := 53) rfl hI12 tyX12 tyX12_ok nmX12 24 ⟨by decide, rfl, by decide, rfl, rfl⟩ rfl rfl hin (k' := 24) rfl (by decide +kernel) (fun _ => ⟨rfl, rfl⟩) hL20 (okX12_init (136, .putfield 59, 3) (List.mem_of_getElem? (i := 68) rfl)) (fun H locs hw hS => ?_)
  refine lv_aload_n hx hb (okX12_init (139, .aload_n 0, 1) (List.mem_of_getElem? (i := 69) rfl)) rfl (lv_at hl 0 rfl) ?_
  refine lv_iconst (v := iI 2) hx hb (okX12_init (140, .iconst 2, 1) (List.mem_of_getElem? (i := 70) rfl)) rfl ?_
  refine sk_newI (n := 175) (N := 2) S hK hw hS (fun x q h => (uB_o (by omega)).trans ((uB_o (by omega)).trans ((uB_o (by omega)).trans ((uB_o (by omega)).trans ((uB_o (by omega)).trans ((uB_o (by omega)).trans ((uB_o (by omega)).trans ((uB_o (by omega)).trans ((uB_o (by omega)).trans ((uB_o (by omega)).trans ((uB_o (by omega)).trans ((uB_o (by omega)).trans ((uB_o (by omega)).trans ((uB_o (by omega)).trans ((uB_o (by omega)).trans ((uB_o (by omega)).trans ((uB_o (by omega)).trans (hB x q (by omega))))))))))))))))))) (by decide +kernel) (by decide +kernel) rfl (by decide) hL3 ⟨Nat.le_of_ble_eq_true rfl, Nat.le_of_ble_eq_true rfl⟩ (okX12_init (141, .newarray .int, 2) (List.mem_of_getElem? (i := 71) rfl)) (fun H hw hS => ?_)
  refine sk_putr (b := 175) S hK hw hS kdn_158 (by omega) (T := TX12) (N := 53) rfl hI12 tyX12 tyX12_ok nmX12 25 ⟨by decide, rfl, by decide, rfl, rfl⟩ rfl rfl hin (k' := 25) rfl (by decide +kernel) (fun _ => ⟨rfl, rfl⟩) hL21 (okX12_init (143, .putfield 62, 3) (List.mem_of_getElem? (i := 72) rfl)) (fun H locs hw hS => ?_)
  refine lv_aload_n hx hb (okX12_init (146, .aload_n 0, 1) (List.mem_of_getElem? (i := 73) rfl)) rfl (lv_at hl 0 rfl) ?_
  refine lv_iconst (v := iI 2) hx hb (okX12_init (147, .iconst 2, 1) (List.mem_of_getElem? (i := 74) rfl)) rfl ?_
  refine sk_newI (n := 176) (N := 2) S hK hw hS (fun x q h => (uB_o (by omega)).trans ((uB_o (by omega)).trans ((uB_o (by omega)).trans ((uB_o (by omega)).trans ((uB_o (by omega)).trans ((uB_o (by omega)).trans ((uB_o (by omega)).trans ((uB_o (by omega)).trans ((uB_o (by omega)).trans ((uB_o (by omega)).trans ((uB_o (by omega)).trans ((uB_o (by omega)).trans ((uB_o (by omega)).trans ((uB_o (by omega)).trans ((uB_o (by omega)).trans ((uB_o (by omega)).trans ((uB_o (by omega)).trans ((uB_o (by omega)).trans (hB x q (by omega)))))))))))))))))))) (by decide +kernel) (by decide +kernel) rfl (by decide) hL3 ⟨Nat.le_of_ble_eq_true rfl, Nat.le_of_ble_eq_true rfl⟩ (okX12_init (148, .newarray .int, 2) (List.mem_of_getElem? (i := 75) rfl)) (fun H hw hS => ?_)
  refine sk_putr (b := 176) S hK hw hS kdn_158 (by omega) (T := TX12) (N := 53) rfl hI12 tyX12 tyX12_ok nmX12 26 ⟨by decide, rfl, by decide, rfl, rfl⟩ rfl rfl hin (k' := 26) rfl (by decide +kernel) (fun _ => ⟨rfl, rfl⟩) hL22 (okX12_init (150, .putfield 65, 3) (List.mem_of_getElem? (i := 76) rfl)) (fun H locs hw hS => ?_)
  refine lv_aload_n hx hb (okX12_init (153, .aload_n 0, 1) (List.mem_of_getElem? (i := 77) rfl)) rfl (lv_at hl 0 rfl) ?_
  refine lv_bipush (v := iI 10) hx hb (okX12_init (154, .bipush 10, 2) (List.mem_of_getElem? (i := 78) rfl)) (by decide +kernel) ?_
  refine sk_newI (n := 177) (N := 10) S hK hw hS (fun x q h => (uB_o (by omega)).trans ((uB_o (by omega)).trans ((uB_o (by omega)).trans ((uB_o (by omega)).trans ((uB_o (by omega)).trans ((uB_o (by omega)).trans ((uB_o (by omega)).trans ((uB_o (by omega)).trans ((uB_o (by omega)).trans ((uB_o (by omega)).trans ((uB_o (by omega)).trans ((uB_o (by omega)).trans ((uB_o (by omega)).trans ((uB_o (by omega)).trans ((uB_o (by omega)).trans ((uB_o (by omega)).trans ((uB_o (by omega)).trans ((uB_o (by omega)).trans ((uB_o (by omega)).trans (hB x q (by omega))))))))))))))))))))) (by decide +kernel) (by decide +kernel) rfl (by decide) hL3 ⟨Nat.le_of_ble_eq_true rfl, Nat.le_of_ble_eq_true rfl⟩ (okX12_init (156, .newarray .int, 2) (List.mem_of_getElem? (i := 79) rfl)) (fun H hw hS => ?_)
  refine sk_putr (b := 177) S hK hw hS kdn_158 (by omega) (T := TX12) (N := 53) rfl hI12 tyX12 tyX12_ok nmX12 27 ⟨by decide, rfl, by decide, rfl, rfl⟩ rfl rfl hin (k' := 27) rfl (by decide +kernel) (fun _ => ⟨rfl, rfl⟩) hL23 (okX12_init (158, .putfield 68, 3) (List.mem_of_getElem? (i := 80) rfl)) (fun H locs hw hS => ?_)
  refine lv_aload_n hx hb (okX12_init (161, .aload_n 0, 1) (List.mem_of_getElem? (i := 81) rfl)) rfl (lv_at hl 0 rfl) ?_
  refine lv_bipush (v := iI 100) hx hb (okX12_init (162, .bipush 100, 2) (List.mem_of_getElem? (i := 82) rfl)) (by decide +kernel) ?_
  refine sk_newI (n := 178) (N := 100) S hK hw hS (fun x q h => (uB_o (by omega)).trans ((uB_o (by omega)).trans ((uB_o (by omega)).trans ((uB_o (by omega)).trans ((uB_o (by omega)).trans ((uB_o (by omega)).trans ((uB_o (by omega)).trans ((uB_o (by omega)).trans ((uB_o (by omega)).trans ((uB_o (by omega)).trans ((uB_o (by omega)).trans ((uB_o (by omega)).trans ((uB_o (by omega)).trans ((uB_o (by omega)).trans ((uB_o (by omega)).trans ((uB_o (by omega)).trans ((uB_o (by omega)).trans ((uB_o (by omega)).trans ((uB_o (by omega)).trans ((uB_o (by omega)).trans (hB x q (by omega)))))))))))))))))))))) (by decide +kernel) (by decide +kernel) rfl (by decide) hL3 ⟨Nat.le_of_ble_eq_true rfl, Nat.le_of_ble_eq_true rfl⟩ (okX12_init (164, .newarray .int, 2) (List.mem_of_getElem? (i := 83) rfl)) (fun H hw hS => ?_)
  refine sk_putr (b := 178) S hK hw hS kdn_158 (by omega) (T := TX12) (N := 53) rfl hI12 tyX12 tyX12_ok nmX12 28 ⟨by decide, rfl, by decide, rfl, rfl⟩ rfl rfl hin (k' := 28) rfl (by decide +kernel) (fun _ => ⟨rfl, rfl⟩) hL24 (okX12_init (166, .putfield 71, 3) (List.mem_of_getElem? (i := 84) rfl)) (fun H locs hw hS => ?_)
  refine lv_aload_n hx hb (okX12_init (169, .aload_n 0, 1) (List.mem_of_getElem? (i := 85) rfl)) rfl (lv_at hl 0 rfl) ?_
  refine lv_sipush (v := iI 1024) hx hb (okX12_init (170, .sipush 1024, 3) (List.mem_of_getElem? (i := 86) rfl)) (by decide +kernel) ?_
  refine sk_newI (n := 179) (N := 1024) S hK hw hS (fun x q h => (uB_o (by omega)).trans ((uB_o (by omega)).trans ((uB_o (by omega)).trans ((uB_o (by omega)).trans ((uB_o (by omega)).trans ((uB_o (by omega)).trans ((uB_o (by omega)).trans ((uB_o (by omega)).trans ((uB_o (by omega)).trans ((uB_o (by omega)).trans ((uB_o (by omega)).trans ((uB_o (by omega)).trans ((uB_o (by omega)).trans ((uB_o (by omega)).trans ((uB_o (by omega)).trans ((uB_o (by omega)).trans ((uB_o (by omega)).trans ((uB_o (by omega)).trans ((uB_o (by omega)).trans ((uB_o (by omega)).trans ((uB_o (by omega)).trans (hB x q (by omega))))))))))))))))))))))) (by decide +kernel) (by decide +kernel) rfl (by decide) hL3 ⟨Nat.le_of_ble_eq_true rfl, Nat.le_of_ble_eq_true rfl⟩ (okX12_init (173, .newarray .int, 2) (List.mem_of_getElem? (i := 87) rfl)) (fun H hw hS => ?_)
  refine sk_putr (b := 179) S hK hw hS kdn_158 (by omega) (T := TX12) (N := 53) rfl hI12 tyX12 tyX12_ok nmX12 29 ⟨by decide, rfl, by decide, rfl, rfl⟩ rfl rfl hin (k' := 29) rfl (by decide +kernel) (fun _ => ⟨rfl, rfl⟩) hL25 (okX12_init (175, .putfield 74, 3) (List.mem_of_getElem? (i := 88) rfl)) (fun H locs hw hS => ?_)
  refine lv_aload_n hx hb (okX12_init (178, .aload_n 0, 1) (List.mem_of_getElem? (i := 89) rfl)) rfl (lv_at hl 0 rfl) ?_
  refine lv_bipush (v := iI 10) hx hb (okX12_init (179, .bipush 10, 2) (List.mem_of_getElem? (i := 90) rfl)) (by decide +kernel) ?_
  refine sk_newI (n := 180) (N := 10) S hK hw hS (fun x q h => (uB_o (by omega)).trans ((uB_o (by omega)).trans ((uB_o (by omega)).trans ((uB_o (by omega)).trans ((uB_o (by omega)).trans ((uB_o (by omega)).trans ((uB_o (by omega)).trans ((uB_o (by omega)).trans ((uB_o (by omega)).trans ((uB_o (by omega)).trans ((uB_o (by omega)).trans ((uB_o (by omega)).trans ((uB_o (by omega)).trans ((uB_o (by omega)).trans ((uB_o (by omega)).trans ((uB_o (by omega)).trans ((uB_o (by omega)).trans ((uB_o (by omega)).trans ((uB_o (by omega)).trans ((uB_o (by omega)).trans ((uB_o (by omega)).trans ((uB_o (by omega)).trans (hB x q (by omega)))))))))))))))))))))))) (by decide +kernel) (by decide +kernel) rfl (by decide) hL3 ⟨Nat.le_of_ble_eq_true rfl, Nat.le_of_ble_eq_true rfl⟩ (okX12_init (181, .newarray .int, 2) (List.mem_of_getElem? (i := 91) rfl)) (fun H hw hS => ?_)
  refine sk_putr (b := 180) S hK hw hS kdn_158 (by omega) (T := TX12) (N := 53) rfl hI12 tyX12 tyX12_ok nmX12 30 ⟨by decide, rfl, by decide, rfl, rfl⟩ rfl rfl hin (k' := 30) rfl (by decide +kernel) (fun _ => ⟨rfl, rfl⟩) hL26 (okX12_init (183, .putfield 77, 3) (List.mem_of_getElem? (i := 92) rfl)) (fun H locs hw hS => ?_)
  refine lv_aload_n hx hb (okX12_init (186, .aload_n 0, 1) (List.mem_of_getElem? (i := 93) rfl)) rfl (lv_at hl 0 rfl) ?_
  refine lv_bipush (v := iI 10) hx hb (okX12_init (187, .bipush 10, 2) (List.mem_of_getElem? (i := 94) rfl)) (by decide +kernel) ?_
  refine sk_newI (n := 181) (N := 10) S hK hw hS (fun x q h => (uB_o (by omega)).trans ((uB_o (by omega)).trans ((uB_o (by omega)).trans ((uB_o (by omega)).trans ((uB_o (by omega)).trans ((uB_o (by omega)).trans ((uB_o (by omega)).trans ((uB_o (by omega)).trans ((uB_o (by omega)).trans ((uB_o (by omega)).trans ((uB_o (by omega)).trans ((uB_o (by omega)).trans ((uB_o (by omega)).trans ((uB_o (by omega)).trans ((uB_o (by omega)).trans ((uB_o (by omega)).trans ((uB_o (by omega)).trans ((uB_o (by omega)).trans ((uB_o (by omega)).trans ((uB_o (by omega)).trans ((uB_o (by omega)).trans ((uB_o (by omega)).trans ((uB_o (by omega)).trans (hB x q (by omega))))))))))))))))))))))))) (by decide +kernel) (by decide +kernel) rfl (by decide) hL3 ⟨Nat.le_of_ble_eq_true rfl, Nat.le_of_ble_eq_true rfl⟩ (okX12_init (189, .newarray .int, 2) (List.mem_of_getElem? (i := 95) rfl)) (fun H hw hS => ?_)
  refine sk_putr (b := 181) S hK hw hS kdn_158 (by omega) (T := TX12) (N := 53) rfl hI12 tyX12 tyX12_ok nmX12 31 ⟨by decide, rfl, by decide, rfl, rfl⟩ rfl rfl hin (k' := 31) rfl (by decide +kernel) (fun _ => ⟨rfl, rfl⟩) hL27 (okX12_init (191, .putfield 80, 3) (List.mem_of_getElem? (i := 96) rfl)) (fun H locs hw hS => ?_)
  refine lv_aload_n hx hb (okX12_init (194, .aload_n 0, 1) (List.mem_of_getElem? (i := 97) rfl)) rfl (lv_at hl 0 rfl) ?_
  refine lv_bipush (v := iI 10) hx hb (okX12_init (195, .bipush 10, 2) (List.mem_of_getElem? (i := 98) rfl)) (by decide +kernel) ?_
  refine sk_newI (n := 182) (N := 10) S hK hw hS (fun x q h => (uB_o (by omega)).trans ((uB_o (by omega)).trans ((uB_o (by omega)).trans ((uB_o (by omega)).trans ((uB_o (by omega)).trans ((uB_o (by omega)).trans ((uB_o (by omega)).trans ((uB_o (by omega)).trans ((uB_o (by omega)).trans ((uB_o (by omega)).trans ((uB_o (by omega)).trans ((uB_o (by omega)).trans ((uB_o (by omega)).trans ((uB_o (by omega)).trans ((uB_o (by omega)).trans ((uB_o (by omega)).trans ((uB_o (by omega)).trans ((uB_o (by omega)).trans ((uB_o (by omega)).trans ((uB_o (by omega)).trans ((uB_o (by omega)).trans ((uB_o (by omega)).trans ((uB_o (by omega)).trans ((uB_o (by omega)).trans (hB x q (by omega)))))))))))))))))))))))))) (by decide +kernel) (by decide +kernel) rfl (by decide) hL3 ⟨Nat.le_of_ble_eq_true rfl, Nat.le_of_ble_eq_true rfl⟩ (okX12_init (197, .newarray .int, 2) (List.mem_of_getElem? (i := 99) rfl)) (fun H hw hS => ?_)
  refine sk_putr (b := 182) S hK hw hS kdn_158 (by omega) (T := TX12) (N := 53) rfl hI12 tyX12 tyX12_ok nmX12 32 ⟨by decide, rfl, by decide, rfl, rfl⟩ rfl rfl hin (k' := 32) rfl (by decide +kernel) (fun _ => ⟨rfl, rfl⟩) hL28 (okX12_init (199, .putfield 83, 3) (List.mem_of_getElem? (i := 100) rfl)) (fun H locs hw hS => ?_)
  refine lv_aload_n hx hb (okX12_init (202, .aload_n 0, 1) (List.mem_of_getElem? (i := 101) rfl)) rfl (lv_at hl 0 rfl) ?_
  refine lv_bipush (v := iI 10) hx hb (okX12_init (203, .bipush 10, 2) (List.mem_of_getElem? (i := 102) rfl)) (by decide +kernel) ?_
  refine sk_newI (n := 183) (N := 10) S hK hw hS (fun x q h => (uB_o (by omega)).trans ((uB_o (by omega)).trans ((uB_o (by omega)).trans ((uB_o (by omega)).trans ((uB_o (by omega)).trans ((uB_o (by omega)).trans ((uB_o (by omega)).trans ((uB_o (by omega)).trans ((uB_o (by omega)).trans ((uB_o (by omega)).trans ((uB_o (by omega)).trans ((uB_o (by omega)).trans ((uB_o (by omega)).trans ((uB_o (by omega)).trans ((uB_o (by omega)).trans ((uB_o (by omega)).trans ((uB_o (by omega)).trans ((uB_o (by omega)).trans ((uB_o (by omega)).trans ((uB_o (by omega)).trans ((uB_o (by omega)).trans ((uB_o (by omega)).trans ((uB_o (by omega)).trans ((uB_o (by omega)).trans ((uB_o (by omega)).trans (hB x q (by omega))))))))))))))))))))))))))) (by decide +kernel) (by decide +kernel) rfl (by decide) hL3 ⟨Nat.le_of_ble_eq_true rfl, Nat.le_of_ble_eq_true rfl⟩ (okX12_init (205, .newarray .int, 2) (List.mem_of_getElem? (i := 103) rfl)) (fun H hw hS => ?_)
  refine sk_putr (b := 183) S hK hw hS kdn_158 (by omega) (T := TX12) (N := 53) rfl hI12 tyX12 tyX12_ok nmX12 33 ⟨by decide, rfl, by decide, rfl, rfl⟩ rfl rfl hin (k' := 33) rfl (by decide +kernel) (fun _ => ⟨rfl, rfl⟩) hL29 (okX12_init (207, .putfield 86, 3) (List.mem_of_getElem? (i := 104) rfl)) (fun H locs hw hS => ?_)
  refine lv_aload_n hx hb (okX12_init (210, .aload_n 0, 1) (List.mem_of_getElem? (i := 105) rfl)) rfl (lv_at hl 0 rfl) ?_
  refine lv_bipush (v := iI 10) hx hb (okX12_init (211, .bipush 10, 2) (List.mem_of_getElem? (i := 106) rfl)) (by decide +kernel) ?_
  refine sk_newI (n := 184) (N := 10) S hK hw hS (fun x q h => (uB_o (by omega)).trans ((uB_o (by omega)).trans ((uB_o (by omega)).trans ((uB_o (by omega)).trans ((uB_o (by omega)).trans ((uB_o (by omega)).trans ((uB_o (by omega)).trans ((uB_o (by omega)).trans ((uB_o (by omega)).trans ((uB_o (by omega)).trans ((uB_o (by omega)).trans ((uB_o (by omega)).trans ((uB_o (by omega)).trans ((uB_o (by omega)).trans ((uB_o (by omega)).trans ((uB_o (by omega)).trans ((uB_o (by omega)).trans ((uB_o (by omega)).trans ((uB_o (by omega)).trans ((uB_o (by omega)).trans ((uB_o (by omega)).trans ((uB_o (by omega)).trans ((uB_o (by omega)).trans ((uB_o (by omega)).trans ((uB_o (by omega)).trans ((uB_o (by omega)).trans (hB x q (by omega)))))))))))))))))))))))))))) (by decide +kernel) (by decide +kernel) rfl (by decide) hL3 ⟨Nat.le_of_ble_eq_true rfl, Nat.le_of_ble_eq_true rfl⟩ (okX12_init (213, .newarray .int, 2) (List.mem_of_getElem? (i := 107) rfl)) (fun H hw hS => ?_)
  refine sk_putr (b := 184) S hK hw hS kdn_158 (by omega) (T := TX12) (N := 53) rfl hI12 tyX12 tyX12_ok nmX12 34 ⟨by decide, rfl, by decide, rfl, rfl⟩ rfl rfl hin (k' := 34) rfl (by decide +kernel) (fun _ => ⟨rfl, rfl⟩) hL30 (okX12_init (215, .putfield 89, 3) (List.mem_of_getElem? (i := 108) rfl)) (fun H locs hw hS => ?_)
  refine lv_aload_n hx hb (okX12_init (218, .aload_n 0, 1) (List.mem_of_getElem? (i := 109) rfl)) rfl (lv_at hl 0 rfl) ?_
  refine lv_bipush (v := iI 12) hx hb (okX12_init (219, .bipush 12, 2) (List.mem_of_getElem? (i := 110) rfl)) (by decide +kernel) ?_
  refine sk_newI (n := 185) (N := 12) S hK hw hS (fun x q h => (uB_o (by omega)).trans ((uB_o (by omega)).trans ((uB_o (by omega)).trans ((uB_o (by omega)).trans ((uB_o (by omega)).trans ((uB_o (by omega)).trans ((uB_o (by omega)).trans ((uB_o (by omega)).trans ((uB_o (by omega)).trans ((uB_o (by omega)).trans ((uB_o (by omega)).trans ((uB_o (by omega)).trans ((uB_o (by omega)).trans ((uB_o (by omega)).trans ((uB_o (by omega)).trans ((uB_o (by omega)).trans ((uB_o (by omega)).trans ((uB_o (by omega)).trans ((uB_o (by omega)).trans ((uB_o (by omega)).trans ((uB_o (by omega)).trans ((uB_o (by omega)).trans ((uB_o (by omega)).trans ((uB_o (by omega)).trans ((uB_o (by omega)).trans ((uB_o (by omega)).trans ((uB_o (by omega)).trans (hB x q (by omega))))))))))))))))))))))))))))) (by decide +kernel) (by decide +kernel) rfl (by decide) hL3 ⟨Nat.le_of_ble_eq_true rfl, Nat.le_of_ble_eq_true rfl⟩ (okX12_init (221, .newarray .int, 2) (List.mem_of_getElem? (i := 111) rfl)) (fun H hw hS => ?_)
  refine sk_putr (b := 185) S hK hw hS kdn_158 (by omega) (T := TX12) (N := 53) rfl hI12 tyX12 tyX12_ok nmX12 35 ⟨by decide, rfl, by decide, rfl, rfl⟩ rfl rfl hin (k' := 35) rfl (by decide +kernel) (fun _ => ⟨rfl, rfl⟩) hL31 (okX12_init (223, .putfield 92, 3) (List.mem_of_getElem? (i := 112) rfl)) (fun H locs hw hS => ?_)
  refine lv_aload_n hx hb (okX12_init (226, .aload_n 0, 1) (List.mem_of_getElem? (i := 113) rfl)) rfl (lv_at hl 0 rfl) ?_
  refine lv_bipush (v := iI 12) hx hb (okX12_init (227, .bipush 12, 2) (List.mem_of_getElem? (i := 114) rfl)) (by decide +kernel) ?_
  refine sk_newI (n := 186) (N := 12) S hK hw hS (fun x q h => (uB_o (by omega)).trans ((uB_o (by omega)).trans ((uB_o (by omega)).trans ((uB_o (by omega)).trans ((uB_o (by omega)).trans ((uB_o (by omega)).trans ((uB_o (by omega)).trans ((uB_o (by omega)).trans ((uB_o (by omega)).trans ((uB_o (by omega)).trans ((uB_o (by omega)).trans ((uB_o (by omega)).trans ((uB_o (by omega)).trans ((uB_o (by omega)).trans ((uB_o (by omega)).trans ((uB_o (by omega)).trans ((uB_o (by omega)).trans ((uB_o (by omega)).trans ((uB_o (by omega)).trans ((uB_o (by omega)).trans ((uB_o (by omega)).trans ((uB_o (by omega)).trans ((uB_o (by omega)).trans ((uB_o (by omega)).trans ((uB_o (by omega)).trans ((uB_o (by omega)).trans ((uB_o (by omega)).trans ((uB_o (by omega)).trans (hB x q (by omega)))))))))))))))))))))))))))))) (by decide +kernel) (by decide +kernel) rfl (by decide) hL3 ⟨Nat.le_of_ble_eq_true rfl, Nat.le_of_ble_eq_true rfl⟩ (okX12_init (229, .newarray .int, 2) (List.mem_of_getElem? (i := 115) rfl)) (fun H hw hS => ?_)
  refine sk_putr (b := 186) S hK hw hS kdn_158 (by omega) (T := TX12) (N := 53) rfl hI12 tyX12 tyX12_ok nmX12 36 ⟨by decide, rfl, by decide, rfl, rfl⟩ rfl rfl hin (k' := 36) rfl (by decide +kernel) (fun _ => ⟨rfl, rfl⟩) hL32 (okX12_init (231, .putfield 95, 3) (List.mem_of_getElem? (i := 116) rfl)) (fun H locs hw hS => ?_)
  refine lv_aload_n hx hb (okX12_init (234, .aload_n 0, 1) (List.mem_of_getElem? (i := 117) rfl)) rfl (lv_at hl 0 rfl) ?_
  refine lv_bipush (v := iI 12) hx hb (okX12_init (235, .bipush 12, 2) (List.mem_of_getElem? (i := 118) rfl)) (by decide +kernel) ?_
  refine sk_newI (n := 187) (N := 12) S hK hw hS (fun x q h => (uB_o (by omega)).trans ((uB_o (by omega)).trans ((uB_o (by omega)).trans ((uB_o (by omega)).trans ((uB_o (by omega)).trans ((uB_o (by omega)).trans ((uB_o (by omega)).trans ((uB_o (by omega)).trans ((uB_o (by omega)).trans ((uB_o (by omega)).trans ((uB_o (by omega)).trans ((uB_o (by omega)).trans ((uB_o (by omega)).trans ((uB_o (by omega)).trans ((uB_o (by omega)).trans ((uB_o (by omega)).trans ((uB_o (by omega)).trans ((uB_o (by omega)).trans ((uB_o (by omega)).trans ((uB_o (by omega)).trans ((uB_o (by omega)).trans ((uB_o (by omega)).trans ((uB_o (by omega)).trans ((uB_o (by omega)).trans ((uB_o (by omega)).trans ((uB_o (by omega)).trans ((uB_o (by omega)).trans ((uB_o (by omega)).trans ((uB_o (by omega)).trans (hB x q (by omega))))))))))))))))))))))))))))))) (by decide +kernel) (by decide +kernel) rfl (by decide) hL3 ⟨Nat.le_of_ble_eq_true rfl, Nat.le_of_ble_eq_true rfl⟩ (okX12_init (237, .newarray .int, 2) (List.mem_of_getElem? (i := 119) rfl)) (fun H hw hS => ?_)
  refine sk_putr (b := 187) S hK hw hS kdn_158 (by omega) (T := TX12) (N := 53) rfl hI12 tyX12 tyX12_ok nmX12 37 ⟨by decide, rfl, by decide, rfl, rfl⟩ rfl rfl hin (k' := 37) rfl (by decide +kernel) (fun _ => ⟨rfl, rfl⟩) hL33 (okX12_init (239, .putfield 98, 3) (List.mem_of_getElem? (i := 120) rfl)) (fun H locs hw hS => ?_)
  refine lv_aload_n hx hb (okX12_init (242, .aload_n 0, 1) (List.mem_of_getElem? (i := 121) rfl)) rfl (lv_at hl 0 rfl) ?_
  refine lv_bipush (v := iI 12) hx hb (okX12_init (243, .bipush 12, 2) (List.mem_of_getElem? (i := 122) rfl)) (by decide +kernel) ?_
  refine sk_newI (n := 188) (N := 12) S hK hw hS (fun x q h => (uB_o (by omega)).trans ((uB_o (by omega)).trans ((uB_o (by omega)).trans ((uB_o (by omega)).trans ((uB_o (by omega)).trans ((uB_o (by omega)).trans ((uB_o (by omega)).trans ((uB_o (by omega)).trans ((uB_o (by omega)).trans ((uB_o (by omega)).trans ((uB_o (by omega)).trans ((uB_o (by omega)).trans ((uB_o (by omega)).trans ((uB_o (by omega)).trans ((uB_o (by omega)).trans ((uB_o (by omega)).trans ((uB_o (by omega)).trans ((uB_o (by omega)).trans ((uB_o (by omega)).trans ((uB_o (by omega)).trans ((uB_o (by omega)).trans ((uB_o (by omega)).trans ((uB_o (by omega)).trans ((uB_o (by omega)).trans ((uB_o (by omega)).trans ((uB_o (by omega)).trans ((uB_o (by omega)).trans ((uB_o (by omega)).trans ((uB_o (by omega)).trans ((uB_o (by omega)).trans (hB x q (by omega)))))))))))))))))))))))))))))))) (by decide +kernel) (by decide +kernel) rfl (by decide) hL3 ⟨Nat.le_of_ble_eq_true rfl, Nat.le_of_ble_eq_true rfl⟩ (okX12_init (245, .newarray .int, 2) (List.mem_of_getElem? (i := 123) rfl)) (fun H hw hS => ?_)
  refine sk_putr (b := 188) S hK hw hS kdn_158 (by omega) (T := TX12) (N := 53) rfl hI12 tyX12 tyX12_ok nmX12 38 ⟨by decide, rfl, by decide, rfl, rfl⟩ rfl rfl hin (k' := 38) rfl (by decide +kernel) (fun _ => ⟨rfl, rfl⟩) hL34 (okX12_init (247, .putfield 101, 3) (List.mem_of_getElem? (i := 124) rfl)) (fun H locs hw hS => ?_)
  refine lv_aload_n hx hb (okX12_init (250, .aload_n 0, 1) (List.mem_of_getElem? (i := 125) rfl)) rfl (lv_at hl 0 rfl) ?_
  refine lv_bipush (v := iI 120) hx hb (okX12_init (251, .bipush 120, 2) (List.mem_of_getElem? (i := 126) rfl)) (by decide +kernel) ?_
  refine sk_newI (n := 189) (N := 120) S hK hw hS (fun x q h => (uB_o (by omega)).trans ((uB_o (by omega)).trans ((uB_o (by omega)).trans ((uB_o (by omega)).trans ((uB_o (by omega)).trans ((uB_o (by omega)).trans ((uB_o (by omega)).trans ((uB_o (by omega)).trans ((uB_o (by omega)).trans ((uB_o (by omega)).trans ((uB_o (by omega)).trans ((uB_o (by omega)).trans ((uB_o (by omega)).trans ((uB_o (by omega)).trans ((uB_o (by omega)).trans ((uB_o (by omega)).trans ((uB_o (by omega)).trans ((uB_o (by omega)).trans ((uB_o (by omega)).trans ((uB_o (by omega)).trans ((uB_o (by omega)).trans ((uB_o (by omega)).trans ((uB_o (by omega)).trans ((uB_o (by omega)).trans ((uB_o (by omega)).trans ((uB_o (by omega)).trans ((uB_o (by omega)).trans ((uB_o (by omega)).trans ((uB_o (by omega)).trans ((uB_o (by omega)).trans ((uB_o (by omega)).trans (hB x q (by omega))))))))))))))))))))))))))))))))) (by decide +kernel) (by decide +kernel) rfl (by decide) hL3 ⟨Nat.le_of_ble_eq_true rfl, Nat.le_of_ble_eq_true rfl⟩ (okX12_init (253, .newarray .int, 2) (List.mem_of_getElem? (i := 127) rfl)) (fun H hw hS => ?_)
  refine sk_putr (b := 189) S hK hw hS kdn_158 (by omega) (T := TX12) (N := 53) rfl hI12 tyX12 tyX12_ok nmX12 39 ⟨by decide, rfl, by decide, rfl, rfl⟩ rfl rfl hin (k' := 39) rfl (by decide +kernel) (fun _ => ⟨rfl, rfl⟩) hL35 (okX12_init (255, .putfield 104, 3) (List.mem_of_getElem? (i := 128) rfl)) (fun H locs hw hS => ?_)
  refine lv_aload_n hx hb (okX12_init (258, .aload_n 0, 1) (List.mem_of_getElem? (i := 129) rfl)) rfl (lv_at hl 0 rfl) ?_
  refine lv_bipush (v := iI 10) hx hb (okX12_init (259, .bipush 10, 2) (List.mem_of_getElem? (i := 130) rfl)) (by decide +kernel) ?_
  refine sk_newI (n := 190) (N := 10) S hK hw hS (fun x q h => (uB_o (by omega)).trans ((uB_o (by omega)).trans ((uB_o (by omega)).trans ((uB_o (by omega)).trans ((uB_o (by omega)).trans ((uB_o (by omega)).trans ((uB_o (by omega)).trans ((uB_o (by omega)).trans ((uB_o (by omega)).trans ((uB_o (by omega)).trans ((uB_o (by omega)).trans ((uB_o (by omega)).trans ((uB_o (by omega)).trans ((uB_o (by omega)).trans ((uB_o (by omega)).trans ((uB_o (by omega)).trans ((uB_o (by omega)).trans ((uB_o (by omega)).trans ((uB_o (by omega)).trans ((uB_o (by omega)).trans ((uB_o (by omega)).trans ((uB_o (by omega)).trans ((uB_o (by omega)).trans ((uB_o (by omega)).trans ((uB_o (by omega)).trans ((uB_o (by omega)).trans ((uB_o (by omega)).trans ((uB_o (by omega)).trans ((uB_o (by omega)).trans ((uB_o (by omega)).trans ((uB_o (by omega)).trans ((uB_o (by omega)).trans (hB x q (by omega)))))))))))))))))))))))))))))))))) (by decide +kernel) (by decide +kernel) rfl (by decide) hL3 ⟨Nat.le_of_ble_eq_true rfl, Nat.le_of_ble_eq_true rfl⟩ (okX12_init (261, .newarray .int, 2) (List.mem_of_getElem? (i := 131) rfl)) (fun H hw hS => ?_)
  refine sk_putr (b := 190) S hK hw hS kdn_158 (by omega) (T := TX12) (N := 53) rfl hI12 tyX12 tyX12_ok nmX12 40 ⟨by decide, rfl, by decide, rfl, rfl⟩ rfl rfl hin (k' := 40) rfl (by decide +kernel) (fun _ => ⟨rfl, rfl⟩) hL36 (okX12_init (263, .putfield 107, 3) (List.mem_of_getElem? (i := 132) rfl)) (fun H locs hw hS => ?_)
  refine lv_aload_n hx hb (okX12_init (266, .aload_n 0, 1) (List.mem_of_getElem? (i := 133) rfl)) rfl (lv_at hl 0 rfl) ?_
  refine lv_bipush (v := iI 50) hx hb (okX12_init (267, .bipush 50, 2) (List.mem_of_getElem? (i := 134) rfl)) (by decide +kernel) ?_
  refine sk_put S hK ⟨hw, hS⟩ kdn_158 (by omega) (C := RX12) (T := TX12) (N := 53) rfl hI12 tyX12 tyX12_ok nmX12 42 ⟨by decide, rfl, by decide, rfl⟩ rfl rfl (k' := 42) rfl (by decide) ⟨rfl, rfl⟩ hL37 (okX12_init (269, .putfield 110, 3) (List.mem_of_getElem? (i := 135) rfl)) (fun H locs hwp => ?_)
  have hS := hwp.2
  have hw := cw.put hwp.1 (by decide +kernel) (fun j hj i hi => by unfold isrs; rw [hi, kdn_158]; rw [show j = 42 by omega]; rfl)
  refine lv_aload_n hx hb (okX12_init (272, .aload_n 0, 1) (List.mem_of_getElem? (i := 136) rfl)) rfl (lv_at hl 0 rfl) ?_
  refine lv_sipush (v := iI 200) hx hb (okX12_init (273, .sipush 200, 3) (List.mem_of_getElem? (i := 137) rfl)) (by decide +kernel) ?_
  refine sk_newI (n := 191) (N := 200) S hK hw hS (fun x q h => (uB_o (by omega)).trans ((uB_o (by omega)).trans ((uB_o (by omega)).trans ((uB_o (by omega)).trans ((uB_o (by omega)).trans ((uB_o (by omega)).trans ((uB_o (by omega)).trans ((uB_o (by omega)).trans ((uB_o (by omega)).trans ((uB_o (by omega)).trans ((uB_o (by omega)).trans ((uB_o (by omega)).trans ((uB_o (by omega)).trans ((uB_o (by omega)).trans ((uB_o (by omega)).trans ((uB_o (by omega)).trans ((uB_o (by omega)).trans ((uB_o (by omega)).trans ((uB_o (by omega)).trans ((uB_o (by omega)).trans ((uB_o (by omega)).trans ((uB_o (by omega)).trans ((uB_o (by omega)).trans ((uB_o (by omega)).trans ((uB_o (by omega)).trans ((uB_o (by omega)).trans ((uB_o (by omega)).trans ((uB_o (by omega)).trans ((uB_o (by omega)).trans ((uB_o (by omega)).trans ((uB_o (by omega)).trans ((uB_o (by omega)).trans ((uB_o (by omega)).trans ((uB_o (by omega)).trans (hB x q (by omega)))))))))))))))))))))))))))))))))))) (by decide +kernel) (by decide +kernel) rfl (by decide) hL3 ⟨Nat.le_of_ble_eq_true rfl, Nat.le_of_ble_eq_true rfl⟩ (okX12_init (276, .newarray .int, 2) (List.mem_of_getElem? (i := 138) rfl)) (fun H hw hS => ?_)
  refine sk_putr (b := 191) S hK hw hS kdn_158 (by omega) (T := TX12) (N := 53) rfl hI12 tyX12 tyX12_ok nmX12 43 ⟨by decide, rfl, by decide, rfl, rfl⟩ rfl rfl hin (k' := 43) rfl (by decide +kernel) (fun _ => ⟨rfl, rfl⟩) hL38 (okX12_init (278, .putfield 113, 3) (List.mem_of_getElem? (i := 139) rfl)) (fun H locs hw hS => ?_)
  refine lv_aload_n hx hb (okX12_init (281, .aload_n 0, 1) (List.mem_of_getElem? (i := 140) rfl)) rfl (lv_at hl 0 rfl) ?_
  refine lv_sipush (v := iI 200) hx hb (okX12_init (282, .sipush 200, 3) (List.mem_of_getElem? (i := 141) rfl)) (by decide +kernel) ?_
  refine sk_newI (n := 192) (N := 200) S hK hw hS (fun x q h => (uB_o (by omega)).trans ((uB_o (by omega)).trans ((uB_o (by omega)).trans ((uB_o (by omega)).trans ((uB_o (by omega)).trans ((uB_o (by omega)).trans ((uB_o (by omega)).trans ((uB_o (by omega)).trans ((uB_o (by omega)).trans ((uB_o (by omega)).trans ((uB_o (by omega)).trans ((uB_o (by omega)).trans ((uB_o (by omega)).trans ((uB_o (by omega)).trans ((uB_o (by omega)).trans ((uB_o (by omega)).trans ((uB_o (by omega)).trans ((uB_o (by omega)).trans ((uB_o (by omega)).trans ((uB_o (by omega)).trans ((uB_o (by omega)).trans ((uB_o (by omega)).trans ((uB_o (by omega)).trans ((uB_o (by omega)).trans ((uB_o (by omega)).trans ((uB_o (by omega)).trans ((uB_o (by omega)).trans ((uB_o (by omega)).trans ((uB_o (by omega)).trans ((uB_o (by omega)).trans ((uB_o (by omega)).trans ((uB_o (by omega)).trans ((uB_o (by omega)).trans ((uB_o (by omega)).trans ((uB_o (by omega)).trans (hB x q (by omega))))))))))))))))))))))))))))))))))))) (by decide +kernel) (by decide +kernel) rfl (by decide) hL3 ⟨Nat.le_of_ble_eq_true rfl, Nat.le_of_ble_eq_true rfl⟩ (okX12_init (285, .newarray .int, 2) (List.mem_of_getElem? (i := 142) rfl)) (fun H hw hS => ?_)
  refine sk_putr (b := 192) S hK hw hS kdn_158 (by omega) (T := TX12) (N := 53) rfl hI12 tyX12 tyX12_ok nmX12 44 ⟨by decide, rfl, by decide, rfl, rfl⟩ rfl rfl hin (k' := 44) rfl (by decide +kernel) (fun _ => ⟨rfl, rfl⟩) hL39 (okX12_init (287, .putfield 116, 3) (List.mem_of_getElem? (i := 143) rfl)) (fun H locs hw hS => ?_)
  refine lv_aload_n hx hb (okX12_init (290, .aload_n 0, 1) (List.mem_of_getElem? (i := 144) rfl)) rfl (lv_at hl 0 rfl) ?_
  refine lv_sipush (v := iI 200) hx hb (okX12_init (291, .sipush 200, 3) (List.mem_of_getElem? (i := 145) rfl)) (by decide +kernel) ?_
  refine sk_newI (n := 193) (N := 200) S hK hw hS (fun x q h => (uB_o (by omega)).trans ((uB_o (by omega)).trans ((uB_o (by omega)).trans ((uB_o (by omega)).trans ((uB_o (by omega)).trans ((uB_o (by omega)).trans ((uB_o (by omega)).trans ((uB_o (by omega)).trans ((uB_o (by omega)).trans ((uB_o (by omega)).trans ((uB_o (by omega)).trans ((uB_o (by omega)).trans ((uB_o (by omega)).trans ((uB_o (by omega)).trans ((uB_o (by omega)).trans ((uB_o (by omega)).trans ((uB_o (by omega)).trans ((uB_o (by omega)).trans ((uB_o (by omega)).trans ((uB_o (by omega)).trans ((uB_o (by omega)).trans ((uB_o (by omega)).trans ((uB_o (by omega)).trans ((uB_o (by omega)).trans ((uB_o (by omega)).trans ((uB_o (by omega)).trans ((uB_o (by omega)).trans ((uB_o (by omega)).trans ((uB_o (by omega)).trans ((uB_o (by omega)).trans ((uB_o (by omega)).trans ((uB_o (by omega)).trans ((uB_o (by omega)).trans ((uB_o (by omega)).trans ((uB_o (by omega)).trans ((uB_o (by omega)).trans (hB x q (by omega)))))))))))))))))))))))))))))))))))))) (by decide +kernel) (by decide +kernel) rfl (by decide) hL3 ⟨Nat.le_of_ble_eq_true rfl, Nat.le_of_ble_eq_true rfl⟩ (okX12_init (294, .newarray .int, 2) (List.mem_of_getElem? (i := 146) rfl)) (fun H hw hS => ?_)
  refine sk_putr (b := 193) S hK hw hS kdn_158 (by omega) (T := TX12) (N := 53) rfl hI12 tyX12 tyX12_ok nmX12 45 ⟨by decide, rfl, by decide, rfl, rfl⟩ rfl rfl hin (k' := 45) rfl (by decide +kernel) (fun _ => ⟨rfl, rfl⟩) hL40 (okX12_init (296, .putfield 119, 3) (List.mem_of_getElem? (i := 147) rfl)) (fun H locs hw hS => ?_)
  refine lv_aload_n hx hb (okX12_init (299, .aload_n 0, 1) (List.mem_of_getElem? (i := 148) rfl)) rfl (lv_at hl 0 rfl) ?_
  refine lv_sipush (v := iI 200) hx hb (okX12_init (300, .sipush 200, 3) (List.mem_of_getElem? (i := 149) rfl)) (by decide +kernel) ?_
  refine sk_newI (n := 194) (N := 200) S hK hw hS (fun x q h => (uB_o (by omega)).trans ((uB_o (by omega)).trans ((uB_o (by omega)).trans ((uB_o (by omega)).trans ((uB_o (by omega)).trans ((uB_o (by omega)).trans ((uB_o (by omega)).trans ((uB_o (by omega)).trans ((uB_o (by omega)).trans ((uB_o (by omega)).trans ((uB_o (by omega)).trans ((uB_o (by omega)).trans ((uB_o (by omega)).trans ((uB_o (by omega)).trans ((uB_o (by omega)).trans ((uB_o (by omega)).trans ((uB_o (by omega)).trans ((uB_o (by omega)).trans ((uB_o (by omega)).trans ((uB_o (by omega)).trans ((uB_o (by omega)).trans ((uB_o (by omega)).trans ((uB_o (by omega)).trans ((uB_o (by omega)).trans ((uB_o (by omega)).trans ((uB_o (by omega)).trans ((uB_o (by omega)).trans ((uB_o (by omega)).trans ((uB_o (by omega)).trans ((uB_o (by omega)).trans ((uB_o (by omega)).trans ((uB_o (by omega)).trans ((uB_o (by omega)).trans ((uB_o (by omega)).trans ((uB_o (by omega)).trans ((uB_o (by omega)).trans ((uB_o (by omega)).trans (hB x q (by omega))))))))))))))))))))))))))))))))))))))) (by decide +kernel) (by decide +kernel) rfl (by decide) hL3 ⟨Nat.le_of_ble_eq_true rfl, Nat.le_of_ble_eq_true rfl⟩ (okX12_init (303, .newarray .int, 2) (List.mem_of_getElem? (i := 150) rfl)) (fun H hw hS => ?_)
  refine sk_putr (b := 194) S hK hw hS kdn_158 (by omega) (T := TX12) (N := 53) rfl hI12 tyX12 tyX12_ok nmX12 46 ⟨by decide, rfl, by decide, rfl, rfl⟩ rfl rfl hin (k' := 46) rfl (by decide +kernel) (fun _ => ⟨rfl, rfl⟩) hL41 (okX12_init (305, .putfield 122, 3) (List.mem_of_getElem? (i := 151) rfl)) (fun H locs hw hS => ?_)
  refine lv_aload_n hx hb (okX12_init (308, .aload_n 0, 1) (List.mem_of_getElem? (i := 152) rfl)) rfl (lv_at hl 0 rfl) ?_
  refine lv_sipush (v := iI 200) hx hb (okX12_init (309, .sipush 200, 3) (List.mem_of_getElem? (i := 153) rfl)) (by decide +kernel) ?_
  refine sk_newI (n := 195) (N := 200) S hK hw hS (fun x q h => (uB_o (by omega)).trans ((uB_o (by omega)).trans ((uB_o (by omega)).trans ((uB_o (by omega)).trans ((uB_o (by omega)).trans ((uB_o (by omega)).trans ((uB_o (by omega)).trans ((uB_o (by omega)).trans ((uB_o (by omega)).trans ((uB_o (by omega)).trans ((uB_o (by omega)).trans ((uB_o (by omega)).trans ((uB_o (by omega)).trans ((uB_o (by omega)).trans ((uB_o (by omega)).trans ((uB_o (by omega)).trans ((uB_o (by omega)).trans ((uB_o (by omega)).trans ((uB_o (by omega)).trans ((uB_o (by omega)).trans ((uB_o (by omega)).trans ((uB_o (by omega)).trans ((uB_o (by omega)).trans ((uB_o (by omega)).trans ((uB_o (by omega)).trans ((uB_o (by omega)).trans ((uB_o (by omega)).trans ((uB_o (by omega)).trans ((uB_o (by omega)).trans ((uB_o (by omega)).trans ((uB_o (by omega)).trans ((uB_o (by omega)).trans ((uB_o (by omega)).trans ((uB_o (by omega)).trans ((uB_o (by omega)).trans ((uB_o (by omega)).trans ((uB_o (by omega)).trans ((uB_o (by omega)).trans (hB x q (by omega)))))))))))))))))))))))))))))))))))))))) (by decide +kernel) (by decide +kernel) rfl (by decide) hL3 ⟨Nat.le_of_ble_eq_true rfl, Nat.le_of_ble_eq_true rfl⟩ (okX12_init (312, .newarray .int, 2) (List.mem_of_getElem? (i := 154) rfl)) (fun H hw hS => ?_)
  refine sk_putr (b := 195) S hK hw hS kdn_158 (by omega) (T := TX12) (N := 53) rfl hI12 tyX12 tyX12_ok nmX12 47 ⟨by decide, rfl, by decide, rfl, rfl⟩ rfl rfl hin (k' := 47) rfl (by decide +kernel) (fun _ => ⟨rfl, rfl⟩) hL42 (okX12_init (314, .putfield 125, 3) (List.mem_of_getElem? (i := 155) rfl)) (fun H locs hw hS => ?_)
  refine lv_aload_n hx hb (okX12_init (317, .aload_n 0, 1) (List.mem_of_getElem? (i := 156) rfl)) rfl (lv_at hl 0 rfl) ?_
  refine lv_bipush (v := iI 10) hx hb (okX12_init (318, .bipush 10, 2) (List.mem_of_getElem? (i := 157) rfl)) (by decide +kernel) ?_
  refine sk_newI (n := 196) (N := 10) S hK hw hS (fun x q h => (uB_o (by omega)).trans ((uB_o (by omega)).trans ((uB_o (by omega)).trans ((uB_o (by omega)).trans ((uB_o (by omega)).trans ((uB_o (by omega)).trans ((uB_o (by omega)).trans ((uB_o (by omega)).trans ((uB_o (by omega)).trans ((uB_o (by omega)).trans ((uB_o (by omega)).trans ((uB_o (by omega)).trans ((uB_o (by omega)).trans ((uB_o (by omega)).trans ((uB_o (by omega)).trans ((uB_o (by omega)).trans ((uB_o (by omega)).trans ((uB_o (by omega)).trans ((uB_o (by omega)).trans ((uB_o (by omega)).trans ((uB_o (by omega)).trans ((uB_o (by omega)).trans ((uB_o (by omega)).trans ((uB_o (by omega)).trans ((uB_o (by omega)).trans ((uB_o (by omega)).trans ((uB_o (by omega)).trans ((uB_o (by omega)).trans ((uB_o (by omega)).trans ((uB_o (by omega)).trans ((uB_o (by omega)).trans ((uB_o (by omega)).trans ((uB_o (by omega)).trans ((uB_o (by omega)).trans ((uB_o (by omega)).trans ((uB_o (by omega)).trans ((uB_o (by omega)).trans ((uB_o (by omega)).trans ((uB_o (by omega)).trans (hB x q (by omega))))))))))))))))))))))))))))))))))))))))) (by decide +kernel) (by decide +kernel) rfl (by decide) hL3 ⟨Nat.le_of_ble_eq_true rfl, Nat.le_of_ble_eq_true rfl⟩ (okX12_init (320, .newarray .int, 2) (List.mem_of_getElem? (i := 158) rfl)) (fun H hw hS => ?_)
  refine sk_putr (b := 196) S hK hw hS kdn_158 (by omega) (T := TX12) (N := 53) rfl hI12 tyX12 tyX12_ok nmX12 51 ⟨by decide, rfl, by decide, rfl, rfl⟩ rfl rfl hin (k' := 51) rfl (by decide +kernel) (fun _ => ⟨rfl, rfl⟩) hL43 (okX12_init (322, .putfield 128, 3) (List.mem_of_getElem? (i := 159) rfl)) (fun H locs hw hS => ?_)
  refine lv_aload_n hx hb (okX12_init (325, .aload_n 0, 1) (List.mem_of_getElem? (i := 160) rfl)) rfl (lv_at hl 0 rfl) ?_
  refine lv_bipush (v := iI 10) hx hb (okX12_init (326, .bipush 10, 2) (List.mem_of_getElem? (i := 161) rfl)) (by decide +kernel) ?_
  refine sk_newI (n := 197) (N := 10) S hK hw hS (fun x q h => (uB_o (by omega)).trans ((uB_o (by omega)).trans ((uB_o (by omega)).trans ((uB_o (by omega)).trans ((uB_o (by omega)).trans ((uB_o (by omega)).trans ((uB_o (by omega)).trans ((uB_o (by omega)).trans ((uB_o (by omega)).trans ((uB_o (by omega)).trans ((uB_o (by omega)).trans ((uB_o (by omega)).trans ((uB_o (by omega)).trans ((uB_o (by omega)).trans ((uB_o (by omega)).trans ((uB_o (by omega)).trans ((uB_o (by omega)).trans ((uB_o (by omega)).trans ((uB_o (by omega)).trans ((uB_o (by omega)).trans ((uB_o (by omega)).trans ((uB_o (by omega)).trans ((uB_o (by omega)).trans ((uB_o (by omega)).trans ((uB_o (by omega)).trans ((uB_o (by omega)).trans ((uB_o (by omega)).trans ((uB_o (by omega)).trans ((uB_o (by omega)).trans ((uB_o (by omega)).trans ((uB_o (by omega)).trans ((uB_o (by omega)).trans ((uB_o (by omega)).trans ((uB_o (by omega)).trans ((uB_o (by omega)).trans ((uB_o (by omega)).trans ((uB_o (by omega)).trans ((uB_o (by omega)).trans ((uB_o (by omega)).trans ((uB_o (by omega)).trans (hB x q (by omega)))))))))))))))))))))))))))))))))))))))))) (by decide +kernel) (by decide +kernel) rfl (by decide) hL3 ⟨Nat.le_of_ble_eq_true rfl, Nat.le_of_ble_eq_true rfl⟩ (okX12_init (328, .newarray .int, 2) (List.mem_of_getElem? (i := 162) rfl)) (fun H hw hS => ?_)
  refine sk_putr (b := 197) S hK hw hS kdn_158 (by omega) (T := TX12) (N := 53) rfl hI12 tyX12 tyX12_ok nmX12 52 ⟨by decide, rfl, by decide, rfl, rfl⟩ rfl rfl hin (k' := 52) rfl (by decide +kernel) (fun _ => ⟨rfl, rfl⟩) hL44 (okX12_init (330, .putfield 131, 3) (List.mem_of_getElem? (i := 163) rfl)) (fun H locs hw hS => ?_)
  refine lv_aload_n hx hb (okX12_init (333, .aload_n 0, 1) (List.mem_of_getElem? (i := 164) rfl)) rfl (lv_at hl 0 rfl) ?_
  refine lv_iconst (v := iI (-1)) hx hb (okX12_init (334, .iconst (-1), 1) (List.mem_of_getElem? (i := 165) rfl)) rfl ?_
  refine sk_put S hK ⟨hw, hS⟩ kdn_158 (by omega) (C := RX12) (T := TX12) (N := 53) rfl hI12 tyX12 tyX12_ok nmX12 49 ⟨by decide, rfl, by decide, rfl⟩ rfl rfl (k' := 49) rfl (by decide) ⟨rfl, rfl⟩ hL45 (okX12_init (335, .putfield 134, 3) (List.mem_of_getElem? (i := 166) rfl)) (fun H locs hwp => ?_)
  have hS := hwp.2
  have hw := cw.put hwp.1 (by decide +kernel) (fun j hj i hi => by unfold isrs; rw [hi, kdn_158]; rw [show j = 49 by omega]; rfl)
  refine lv_aload_n hx hb (okX12_init (338, .aload_n 0, 1) (List.mem_of_getElem? (i := 167) rfl)) rfl (lv_at hl 0 rfl) ?_
  refine lv_iconst (v := iI (-1)) hx hb (okX12_init (339, .iconst (-1), 1) (List.mem_of_getElem? (i := 168) rfl)) rfl ?_
  refine sk_put S hK ⟨hw, hS⟩ kdn_158 (by omega) (C := RX12) (T := TX12) (N := 53) rfl hI12 tyX12 tyX12_ok nmX12 50 ⟨by decide, rfl, by decide, rfl⟩ rfl rfl (k' := 50) rfl (by decide) ⟨rfl, rfl⟩ hL46 (okX12_init (340, .putfield 137, 3) (List.mem_of_getElem? (i := 169) rfl)) (fun H locs hwp => ?_)
  have hS := hwp.2
  have hw := cw.put hwp.1 (by decide +kernel) (fun j hj i hi => by unfold isrs; rw [hi, kdn_158]; rw [show j = 50 by omega]; rfl)
  have hfin : cw G (198) (bx B 158 198) H := by
    have hother : ∀ i : Nat, (i : Int) < 198 → (i : Int) ≠ 158 → ∀ q : Int, (i : Int) < 159 → (uB (uB (uB (uB (uB (uB (uB (uB (uB (uB (uB (uB (uB (uB (uB (uB (uB (uB (uB (uB (uB (uB (uB (uB (uB (uB (uB (uB (uB (uB (uB (uB (uB (uB (uB (uB (uB (uB (uB (uB (uB (uB (uB (B) 158 0) 158 1) 158 2) 158 3) 158 4) 158 5) 158 6) 158 7) 158 10) 158 14) 158 18) 158 19) 158 20) 158 21) 158 22) 158 23) 158 24) 158 25) 158 26) 158 27) 158 28) 158 29) 158 30) 158 31) 158 32) 158 33) 158 34) 158 35) 158 36) 158 37) 158 38) 158 39) 158 40) 158 42) 158 43) 158 44) 158 45) 158 46) 158 47) 158 51) 158 52) 158 49) 158 50) i q = bx B 158 198 i q := by
      intro i hi e q em
      by_cases e9 : (i : Int) < 158
      · exact ((uB_o (by omega)).trans ((uB_o (by omega)).trans ((uB_o (by omega)).trans ((uB_o (by omega)).trans ((uB_o (by omega)).trans ((uB_o (by omega)).trans ((uB_o (by omega)).trans ((uB_o (by omega)).trans ((uB_o (by omega)).trans ((uB_o (by omega)).trans ((uB_o (by omega)).trans ((uB_o (by omega)).trans ((uB_o (by omega)).trans ((uB_o (by omega)).trans ((uB_o (by omega)).trans ((uB_o (by omega)).trans ((uB_o (by omega)).trans ((uB_o (by omega)).trans ((uB_o (by omega)).trans ((uB_o (by omega)).trans ((uB_o (by omega)).trans ((uB_o (by omega)).trans ((uB_o (by omega)).trans ((uB_o (by omega)).trans ((uB_o (by omega)).trans ((uB_o (by omega)).trans ((uB_o (by omega)).trans ((uB_o (by omega)).trans ((uB_o (by omega)).trans ((uB_o (by omega)).trans ((uB_o (by omega)).trans ((uB_o (by omega)).trans ((uB_o (by omega)).trans ((uB_o (by omega)).trans ((uB_o (by omega)).trans ((uB_o (by omega)).trans ((uB_o (by omega)).trans ((uB_o (by omega)).trans ((uB_o (by omega)).trans ((uB_o (by omega)).trans ((uB_o (by omega)).trans ((uB_o (by omega)).trans ((uB_o (by omega)).trans (rfl)))))))))))))))))))))))))))))))))))))))))))).trans (bx_o (by omega)).symm
      · exact absurd e (by omega)
    refine hw.cong (fun i hi q hq => ?_) (fun i hi q => ?_)
    · by_cases e : (i : Int) = 158
      · unfold isrs at hq; rw [e, kdn_158] at hq
        rw [e]
        rcases isr_12 q hq with h | h | h | h | h | h | h | h | h | h | h | h | h | h | h | h | h | h | h | h | h | h | h | h | h | h | h | h | h | h | h | h | h | h | h | h | h | h | h
        · subst h; exact (uB_m (uB_m (uB_m (uB_m (uB_m (uB_m (uB_m (uB_m (uB_m (uB_m (uB_m (uB_m (uB_m (uB_m (uB_m (uB_m (uB_m (uB_m (uB_m (uB_m (uB_m (uB_m (uB_m (uB_m (uB_m (uB_m (uB_m (uB_m (uB_m (uB_m (uB_m (uB_m (uB_m (uB_m (uB_m (uB_m (uB_m (uB_m (uB_m (uB_m (uB_m (uB_m (uB_h rfl rfl))))))))))))))))))))))))))))))))))))))))))).trans (bx_h (by omega)).symm
        · subst h; exact (uB_m (uB_m (uB_m (uB_m (uB_m (uB_m (uB_m (uB_m (uB_m (uB_m (uB_m (uB_m (uB_m (uB_m (uB_m (uB_m (uB_m (uB_m (uB_m (uB_m (uB_m (uB_m (uB_m (uB_m (uB_m (uB_m (uB_m (uB_m (uB_m (uB_m (uB_m (uB_m (uB_m (uB_m (uB_m (uB_m (uB_m (uB_m (uB_m (uB_m (uB_m (uB_h rfl rfl)))))))))))))))))))))))))))))))))))))))))).trans (bx_h (by omega)).symm
        · subst h; exact (uB_m (uB_m (uB_m (uB_m (uB_m (uB_m (uB_m (uB_m (uB_m (uB_m (uB_m (uB_m (uB_m (uB_m (uB_m (uB_m (uB_m (uB_m (uB_m (uB_m (uB_m (uB_m (uB_m (uB_m (uB_m (uB_m (uB_m (uB_m (uB_m (uB_m (uB_m (uB_m (uB_m (uB_m (uB_m (uB_m (uB_m (uB_m (uB_m (uB_m (uB_h rfl rfl))))))))))))))))))))))))))))))))))))))))).trans (bx_h (by omega)).symm
        · subst h; exact (uB_m (uB_m (uB_m (uB_m (uB_m (uB_m (uB_m (uB_m (uB_m (uB_m (uB_m (uB_m (uB_m (uB_m (uB_m (uB_m (uB_m (uB_m (uB_m (uB_m (uB_m (uB_m (uB_m (uB_m (uB_m (uB_m (uB_m (uB_m (uB_m (uB_m (uB_m (uB_m (uB_m (uB_m (uB_m (uB_m (uB_m (uB_m (uB_m (uB_h rfl rfl)))))))))))))))))))))))))))))))))))))))).trans (bx_h (by omega)).symm
        · subst h; exact (uB_m (uB_m (uB_m (uB_m (uB_m (uB_m (uB_m (uB_m (uB_m (uB_m (uB_m (uB_m (uB_m (uB_m (uB_m (uB_m (uB_m (uB_m (uB_m (uB_m (uB_m (uB_m (uB_m (uB_m (uB_m (uB_m (uB_m (uB_m (uB_m (uB_m (uB_m (uB_m (uB_m (uB_m (uB_m (uB_m (uB_m (uB_m (uB_h rfl rfl))))))))))))))))))))))))))))))))))))))).trans (bx_h (by omega)).symm
        · subst h; exact (uB_m (uB_m (uB_m (uB_m (uB_m (uB_m (uB_m (uB_m (uB_m (uB_m (uB_m (uB_m (uB_m (uB_m (uB_m (uB_m (uB_m (uB_m (uB_m (uB_m (uB_m (uB_m (uB_m (uB_m (uB_m (uB_m (uB_m (uB_m (uB_m (uB_m (uB_m (uB_m (uB_m (uB_m (uB_m (uB_m (uB_m (uB_h rfl rfl)))))))))))))))))))))))))))))))))))))).trans (bx_h (by omega)).symm
        · subst h; exact (uB_m (uB_m (uB_m (uB_m (uB_m (uB_m (uB_m (uB_m (uB_m (uB_m (uB_m (uB_m (uB_m (uB_m (uB_m (uB_m (uB_m (uB_m (uB_m (uB_m (uB_m (uB_m (uB_m (uB_m (uB_m (uB_m (uB_m (uB_m (uB_m (uB_m (uB_m (uB_m (uB_m (uB_m (uB_m (uB_m (uB_h rfl rfl))))))))))))))))))))))))))))))))))))).trans (bx_h (by omega)).symm
        · subst h; exact (uB_m (uB_m (uB_m (uB_m (uB_m (uB_m (uB_m (uB_m (uB_m (uB_m (uB_m (uB_m (uB_m (uB_m (uB_m (uB_m (uB_m (uB_m (uB_m (uB_m (uB_m (uB_m (uB_m (uB_m (uB_m (uB_m (uB_m (uB_m (uB_m (uB_m (uB_m (uB_m (uB_m (uB_m (uB_m (uB_h rfl rfl)))))))))))))))))))))))))))))))))))).trans (bx_h (by omega)).symm
        · subst h; exact (uB_m (uB_m (uB_m (uB_m (uB_m (uB_m (uB_m (uB_m (uB_m (uB_m (uB_m (uB_m (uB_m (uB_m (uB_m (uB_m (uB_m (uB_m (uB_m (uB_m (uB_m (uB_m (uB_m (uB_m (uB_m (uB_m (uB_m (uB_m (uB_m (uB_m (uB_m (uB_m (uB_m (uB_h rfl rfl)))))))))))))))))))))))))))))))))).trans (bx_h (by omega)).symm
        · subst h; exact (uB_m (uB_m (uB_m (uB_m (uB_m (uB_m (uB_m (uB_m (uB_m (uB_m (uB_m (uB_m (uB_m (uB_m (uB_m (uB_m (uB_m (uB_m (uB_m (uB_m (uB_m (uB_m (uB_m (uB_m (uB_m (uB_m (uB_m (uB_m (uB_m (uB_m (uB_m (uB_m (uB_h rfl rfl))))))))))))))))))))))))))))))))).trans (bx_h (by omega)).symm
        · subst h; exact (uB_m (uB_m (uB_m (uB_m (uB_m (uB_m (uB_m (uB_m (uB_m (uB_m (uB_m (uB_m (uB_m (uB_m (uB_m (uB_m (uB_m (uB_m (uB_m (uB_m (uB_m (uB_m (uB_m (uB_m (uB_m (uB_m (uB_m (uB_m (uB_m (uB_m (uB_m (uB_h rfl rfl)))))))))))))))))))))))))))))))).trans (bx_h (by omega)).symm
        · subst h; exact (uB_m (uB_m (uB_m (uB_m (uB_m (uB_m (uB_m (uB_m (uB_m (uB_m (uB_m (uB_m (uB_m (uB_m (uB_m (uB_m (uB_m (uB_m (uB_m (uB_m (uB_m (uB_m (uB_m (uB_m (uB_m (uB_m (uB_m (uB_m (uB_m (uB_m (uB_h rfl rfl))))))))))))))))))))))))))))))).trans (bx_h (by omega)).symm
        · subst h; exact (uB_m (uB_m (uB_m (uB_m (uB_m (uB_m (uB_m (uB_m (uB_m (uB_m (uB_m (uB_m (uB_m (uB_m (uB_m (uB_m (uB_m (uB_m (uB_m (uB_m (uB_m (uB_m (uB_m (uB_m (uB_m (uB_m (uB_m (uB_m (uB_m (uB_h rfl rfl)))))))))))))))))))))))))))))).trans (bx_h (by omega)).symm
        · subst h; exact (uB_m (uB_m (uB_m (uB_m (uB_m (uB_m (uB_m (uB_m (uB_m (uB_m (uB_m (uB_m (uB_m (uB_m (uB_m (uB_m (uB_m (uB_m (uB_m (uB_m (uB_m (uB_m (uB_m (uB_m (uB_m (uB_m (uB_m (uB_m (uB_h rfl rfl))))))))))))))))))))))))))))).trans (bx_h (by omega)).symm
        · subst h; exact (uB_m (uB_m (uB_m (uB_m (uB_m (uB_m (uB_m (uB_m (uB_m (uB_m (uB_m (uB_m (uB_m (uB_m (uB_m (uB_m (uB_m (uB_m (uB_m (uB_m (uB_m (uB_m (uB_m (uB_m (uB_m (uB_m (uB_m (uB_h rfl rfl)))))))))))))))))))))))))))).trans (bx_h (by omega)).symm
        · subst h; exact (uB_m (uB_m (uB_m (uB_m (uB_m (uB_m (uB_m (uB_m (uB_m (uB_m (uB_m (uB_m (uB_m (uB_m (uB_m (uB_m (uB_m (uB_m (uB_m (uB_m (uB_m (uB_m (uB_m (uB_m (uB_m (uB_m (uB_h rfl rfl))))))))))))))))))))))))))).trans (bx_h (by omega)).symm
        · subst h; exact (uB_m (uB_m (uB_m (uB_m (uB_m (uB_m (uB_m (uB_m (uB_m (uB_m (uB_m (uB_m (uB_m (uB_m (uB_m (uB_m (uB_m (uB_m (uB_m (uB_m (uB_m (uB_m (uB_m (uB_m (uB_m (uB_h rfl rfl)))))))))))))))))))))))))).trans (bx_h (by omega)).symm
        · subst h; exact (uB_m (uB_m (uB_m (uB_m (uB_m (uB_m (uB_m (uB_m (uB_m (uB_m (uB_m (uB_m (uB_m (uB_m (uB_m (uB_m (uB_m (uB_m (uB_m (uB_m (uB_m (uB_m (uB_m (uB_m (uB_h rfl rfl))))))))))))))))))))))))).trans (bx_h (by omega)).symm
        · subst h; exact (uB_m (uB_m (uB_m (uB_m (uB_m (uB_m (uB_m (uB_m (uB_m (uB_m (uB_m (uB_m (uB_m (uB_m (uB_m (uB_m (uB_m (uB_m (uB_m (uB_m (uB_m (uB_m (uB_m (uB_h rfl rfl)))))))))))))))))))))))).trans (bx_h (by omega)).symm
        · subst h; exact (uB_m (uB_m (uB_m (uB_m (uB_m (uB_m (uB_m (uB_m (uB_m (uB_m (uB_m (uB_m (uB_m (uB_m (uB_m (uB_m (uB_m (uB_m (uB_m (uB_m (uB_m (uB_m (uB_h rfl rfl))))))))))))))))))))))).trans (bx_h (by omega)).symm
        · subst h; exact (uB_m (uB_m (uB_m (uB_m (uB_m (uB_m (uB_m (uB_m (uB_m (uB_m (uB_m (uB_m (uB_m (uB_m (uB_m (uB_m (uB_m (uB_m (uB_m (uB_m (uB_m (uB_h rfl rfl)))))))))))))))))))))).trans (bx_h (by omega)).symm
        · subst h; exact (uB_m (uB_m (uB_m (uB_m (uB_m (uB_m (uB_m (uB_m (uB_m (uB_m (uB_m (uB_m (uB_m (uB_m (uB_m (uB_m (uB_m (uB_m (uB_m (uB_m (uB_h rfl rfl))))))))))))))))))))).trans (bx_h (by omega)).symm
        · subst h; exact (uB_m (uB_m (uB_m (uB_m (uB_m (uB_m (uB_m (uB_m (uB_m (uB_m (uB_m (uB_m (uB_m (uB_m (uB_m (uB_m (uB_m (uB_m (uB_m (uB_h rfl rfl)))))))))))))))))))).trans (bx_h (by omega)).symm
        · subst h; exact (uB_m (uB_m (uB_m (uB_m (uB_m (uB_m (uB_m (uB_m (uB_m (uB_m (uB_m (uB_m (uB_m (uB_m (uB_m (uB_m (uB_m (uB_m (uB_h rfl rfl))))))))))))))))))).trans (bx_h (by omega)).symm
        · subst h; exact (uB_m (uB_m (uB_m (uB_m (uB_m (uB_m (uB_m (uB_m (uB_m (uB_m (uB_m (uB_m (uB_m (uB_m (uB_m (uB_m (uB_m (uB_h rfl rfl)))))))))))))))))).trans (bx_h (by omega)).symm
        · subst h; exact (uB_m (uB_m (uB_m (uB_m (uB_m (uB_m (uB_m (uB_m (uB_m (uB_m (uB_m (uB_m (uB_m (uB_m (uB_m (uB_m (uB_h rfl rfl))))))))))))))))).trans (bx_h (by omega)).symm
        · subst h; exact (uB_m (uB_m (uB_m (uB_m (uB_m (uB_m (uB_m (uB_m (uB_m (uB_m (uB_m (uB_m (uB_m (uB_m (uB_m (uB_h rfl rfl)))))))))))))))).trans (bx_h (by omega)).symm
        · subst h; exact (uB_m (uB_m (uB_m (uB_m (uB_m (uB_m (uB_m (uB_m (uB_m (uB_m (uB_m (uB_m (uB_m (uB_m (uB_h rfl rfl))))))))))))))).trans (bx_h (by omega)).symm
        · subst h; exact (uB_m (uB_m (uB_m (uB_m (uB_m (uB_m (uB_m (uB_m (uB_m (uB_m (uB_m (uB_m (uB_m (uB_h rfl rfl)))))))))))))).trans (bx_h (by omega)).symm
        · subst h; exact (uB_m (uB_m (uB_m (uB_m (uB_m (uB_m (uB_m (uB_m (uB_m (uB_m (uB_m (uB_m (uB_h rfl rfl))))))))))))).trans (bx_h (by omega)).symm
        · subst h; exact (uB_m (uB_m (uB_m (uB_m (uB_m (uB_m (uB_m (uB_m (uB_m (uB_m (uB_m (uB_h rfl rfl)))))))))))).trans (bx_h (by omega)).symm
        · subst h; exact (uB_m (uB_m (uB_m (uB_m (uB_m (uB_m (uB_m (uB_m (uB_m (uB_m (uB_h rfl rfl))))))))))).trans (bx_h (by omega)).symm
        · subst h; exact (uB_m (uB_m (uB_m (uB_m (uB_m (uB_m (uB_m (uB_m (uB_h rfl rfl))))))))).trans (bx_h (by omega)).symm
        · subst h; exact (uB_m (uB_m (uB_m (uB_m (uB_m (uB_m (uB_m (uB_h rfl rfl)))))))).trans (bx_h (by omega)).symm
        · subst h; exact (uB_m (uB_m (uB_m (uB_m (uB_m (uB_m (uB_h rfl rfl))))))).trans (bx_h (by omega)).symm
        · subst h; exact (uB_m (uB_m (uB_m (uB_m (uB_m (uB_h rfl rfl)))))).trans (bx_h (by omega)).symm
        · subst h; exact (uB_m (uB_m (uB_m (uB_m (uB_h rfl rfl))))).trans (bx_h (by omega)).symm
        · subst h; exact (uB_m (uB_m (uB_m (uB_h rfl rfl)))).trans (bx_h (by omega)).symm
        · subst h; exact (uB_m (uB_m (uB_h rfl rfl))).trans (bx_h (by omega)).symm
      · by_cases em : (i : Int) < 159
        · exact hother i (by omega) e q em
        · unfold isrs at hq; rw [mo_arr i (by omega) (by omega)] at hq; simp at hq
    · by_cases e : (i : Int) = 158
      · by_cases e2 : q = 10 ∨ q = 42 ∨ q = 49 ∨ q = 50
        · left; rw [e]; rcases e2 with h | h | h | h
          · rw [h]; exact (uB_m (uB_m (uB_m (uB_m (uB_m (uB_m (uB_m (uB_m (uB_m (uB_m (uB_m (uB_m (uB_m (uB_m (uB_m (uB_m (uB_m (uB_m (uB_m (uB_m (uB_m (uB_m (uB_m (uB_m (uB_m (uB_m (uB_m (uB_m (uB_m (uB_m (uB_m (uB_m (uB_m (uB_m (uB_h rfl rfl))))))))))))))))))))))))))))))))))).trans (bx_h (by omega)).symm
          · rw [h]; exact (uB_m (uB_m (uB_m (uB_m (uB_m (uB_m (uB_m (uB_m (uB_m (uB_h rfl rfl)))))))))).trans (bx_h (by omega)).symm
          · rw [h]; exact (uB_m (uB_h rfl rfl)).trans (bx_h (by omega)).symm
          · rw [h]; exact (uB_h rfl rfl).trans (bx_h (by omega)).symm
        · right; unfold I0; rw [e, kdn_158]; simp only []; (repeat' rw [if_neg (by omega)])
      · by_cases em : (i : Int) < 159
        · left; exact hother i (by omega) e q em
        · right; unfold I0; rw [mo_arr i (by omega) (by omega)]; simp only []; rw [if_neg (by omega)]
  refine W.widen (k := 39) (n := 3184) (by decide) (by decide) ?_
  exact cU_ret hx hb hr0 hlocks hK hfin hS (okX12_init (343, .return_, 1) (List.mem_of_getElem? (i := 170) rfl))
