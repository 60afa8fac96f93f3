def rmX7_fill : Room := { frames := 0, cells := 0, slots := 0, locals := 0 }
set_option maxHeartbeats 4000000 in
set_option maxRecDepth 100000 in
theorem c_Row_fill (l : Launch) (G : sk_G) {p0 p1 : Int} (hk_p0 : kd p0 = 7) (hr_p1 : rI p1) {Q : sk_S → Prop} {I : sk_S} (hM : M_Row_fill p0 p1 Q I) : Met l yX7_fill wsX7_fill rmX7_fill (va_Pc [.ref (sk_ad G p0), .int (iI p1)] (sk_U G 198 sk_t I)) (sk_Qv G 198 sk_t Q) 0 0 (sk_A G) := by
  refine Met.ofW (cc := cX7_fill) (maxL := 3) (ret := none) (by decide) rfl ?_
  intro p e s m args below meth c s₁ B hml hv
  obtain ⟨rfl, hU, hK⟩ := hv
  have hx := B.exec
  have hb := B.bytes
  have hr0 := B.returns
  have hts := atoms_spec (ws := wsX7_fill) B.pre
  have hown : s.vm.findClass RX7 = some m.cls := findClass_of_methodNamed B.named
  have hlocks := B.notSynchronized
  have S : CallFix p m c cX7_fill 3 s ([.ref (sk_ad G p0), .int (iI p1)].toArray) wsX7_fill RX7 := ⟨hx, hb, hml, hown, hts⟩
  have hL0 := hts (.fieldLink RX7 7 "SkyLights$Row" "cells" "[I") (by decide +kernel)
  have hI7 : ∀ w ∈ u_ws RX7 TX7 1, w ∈ wsX7_fill := by decide +kernel
  have hw : sk_W G 198 sk_t I s s.heap [] := ⟨hU, va_S.rf⟩
  have hl := lv_entry ([.ref (sk_ad G p0), .int (iI p1)]) (n := 3) (Nat.le_of_ble_eq_true rfl)
  rw [lg_entry_eq]
  generalize (lg_sl ([.ref (sk_ad G p0), .int (iI p1)]) ++ List.replicate (3 - (lg_sl ([.ref (sk_ad G p0), .int (iI p1)])).length) Slot.unset).toArray = ls at hl ⊢
  have hl : lv_has ls 3 [(0, .ref (sk_ad G p0)), (1, .int (iI p1))] := hl
  suffices hgo : ∀ (H : Heap) (locs : List Loc), sk_W G 198 sk_t I s H locs → W p l e (headSpec wsX7_fill rmX7_fill).room s m ([.ref (sk_ad G p0), .int (iI p1)].toArray) below meth c H locs 0 0 (MQ below (sk_Qv G 198 sk_t Q) ([.ref (sk_ad G p0), .int (iI p1)].toArray) s 0 0 (sk_A G)) (F0 m 0 ls []) from hgo _ _ hw
  have hJ_2 : ∀ (v0 v1 v2 : Int) (I : sk_S), kd v0 = 7 → rI v1 → rI v2 → L_Row_fill_2 v0 v1 Q v2 I → ∀ (H : Heap) (locs : List Loc) (ls : Array Slot), sk_W G 198 sk_t I s H locs → lv_has ls 3 [(0, .ref (sk_ad G v0)), (1, .int (iI v1)), (2, .int (iI v2))] → W p l e (headSpec wsX7_fill rmX7_fill).room s m ([.ref (sk_ad G p0), .int (iI p1)].toArray) below meth c H locs 0 0 (MQ below (sk_Qv G 198 sk_t Q) ([.ref (sk_ad G p0), .int (iI p1)].toArray) s 0 0 (sk_A G)) (F0 m 2 ls []) := by
    intro v0 v1 v2 I hk_v0 hr_v1 hr_v2 hM H locs ls hw hl
    unfold L_Row_fill_2 at hM
    obtain ⟨X_2, hX_2⟩ : ∃ X : Int → sk_S → Prop, ∀ (v2 : Int) (I : sk_S), X v2 I ↔ (rI v2 → ∀ (H : Heap) (locs : List Loc) (ls : Array Slot), sk_W G 198 sk_t I s H locs → lv_has ls 3 [(0, .ref (sk_ad G v0)), (1, .int (iI v1)), (2, .int (iI v2))] → W p l e (headSpec wsX7_fill rmX7_fill).room s m ([.ref (sk_ad G p0), .int (iI p1)].toArray) below meth c H locs 0 0 (MQ below (sk_Qv G 198 sk_t Q) ([.ref (sk_ad G p0), .int (iI p1)].toArray) s 0 0 (sk_A G)) (F0 m 2 ls [])) := ⟨_, fun _ _ => Iff.rfl⟩
    refine (hX_2 v2 I).1 (hM X_2 (fun v2 I hM => (hX_2 v2 I).2 (fun hr_v2 H locs ls hw hl => ?_))) hr_v2 H locs ls hw hl
    refine lv_iload_n hx hb (okX7_fill (2, .iload_n 2, 1) (List.mem_of_getElem? (i := 2) rfl)) rfl (lv_at hl 2 rfl) ?_
    refine lv_aload_n hx hb (okX7_fill (3, .aload_n 0, 1) (List.mem_of_getElem? (i := 3) rfl)) rfl (lv_at hl 0 rfl) ?_
    refine sk_getr (b := (v0 + 1)) S hK hw hk_v0 (kd_in hk_v0) (C := RX7) (T := TX7) (N := 1) rfl hI7 0 ⟨by decide, rfl, by decide, rfl⟩ rfl (k' := 0) rfl rfl (rf7 hk_v0) hL0 (okX7_fill (4, .getfield 7, 3) (List.mem_of_getElem? (i := 4) rfl)) ?_
    refine sk_len S hK hw (Or.inl (k7 hk_v0)) (kd_in (k7 hk_v0)) (okX7_fill (7, .arraylength, 1) (List.mem_of_getElem? (i := 5) rfl)) ?_
    refine sk_icmp_ge (tgt := 24) hx hb hr_v2 (ln_r _).1 (okX7_fill (8, .if_icmp .ge 16, 3) (List.mem_of_getElem? (i := 6) rfl)) (by decide) (fun c8 => ?_) (fun c8 => ?_)
    · have hM := hM.1 c8
      exact sk_vret hx hb hr0 hlocks hK hw hM (okX7_fill (24, .return_, 1) (List.mem_of_getElem? (i := 14) rfl))
    · have hM := hM.2 c8
      refine lv_aload_n hx hb (okX7_fill (11, .aload_n 0, 1) (List.mem_of_getElem? (i := 7) rfl)) rfl (lv_at hl 0 rfl) ?_
      refine sk_getr (b := (v0 + 1)) S hK hw hk_v0 (kd_in hk_v0) (C := RX7) (T := TX7) (N := 1) rfl hI7 0 ⟨by decide, rfl, by decide, rfl⟩ rfl (k' := 0) rfl rfl (rf7 hk_v0) hL0 (okX7_fill (12, .getfield 7, 3) (List.mem_of_getElem? (i := 8) rfl)) ?_
      refine lv_iload_n hx hb (okX7_fill (15, .iload_n 2, 1) (List.mem_of_getElem? (i := 9) rfl)) rfl (lv_at hl 2 rfl) ?_
      refine lv_iload_n hx hb (okX7_fill (16, .iload_n 1, 1) (List.mem_of_getElem? (i := 10) rfl)) rfl (lv_at hl 1 rfl) ?_
      obtain ⟨hi1, hM⟩ := hM
      refine sk_ist S hK hw (k7 hk_v0) (kd_in (k7 hk_v0)) hi1 hr_v1 (okX7_fill (17, .iastore, 1) (List.mem_of_getElem? (i := 11) rfl)) (fun H locs hw => ?_)
      obtain ⟨hr2, hM⟩ := hM
      obtain ⟨v2_18, ev2_18⟩ : ∃ y : Int, y = v2 + 1 := ⟨_, rfl⟩
      have hM := hM v2_18 ev2_18
      have hr_v2_18 : rI v2_18 := by rw [ev2_18]; exact hr2
      refine lv_iinc (v := iI v2_18) (lv' := [(2, .int (iI v2_18)), (0, .ref (sk_ad G v0)), (1, .int (iI v1))]) hx hb (okX7_fill (18, .iinc 2 1, 3) (List.mem_of_getElem? (i := 12) rfl)) hl (k := 2) rfl (by rw [ev2_18]; exact iI_add _ _) (by decide) rfl (fun ls hl => ?_)
      refine lv_goto (tgt := 2) hx hb (okX7_fill (21, .goto (-19), 3) (List.mem_of_getElem? (i := 13) rfl)) (by decide) ?_
      exact (hX_2 v2_18 (up I (v0 + 1) v2 v1)).1 hM hr_v2_18 H locs ls hw (lv_sub hl [1, 2, 0] rfl)
  unfold M_Row_fill at hM
  intro H locs hw
  refine lv_iconst (v := iI 0) hx hb (okX7_fill (0, .iconst 0, 1) (List.mem_of_getElem? (i := 0) rfl)) rfl ?_
  refine lv_istore_n (lv' := [(2, .int (iI 0)), (0, .ref (sk_ad G p0)), (1, .int (iI p1))]) hx hb (okX7_fill (1, .istore_n 2, 1) (List.mem_of_getElem? (i := 1) rfl)) rfl hl (by decide) rfl (fun ls hl => ?_)
  exact hJ_2 p0 p1 0 I hk_p0 hr_p1 (by decide) hM H locs ls hw (lv_sub hl [1, 2, 0] rfl)
def rmX1_empty : Room := { frames := 1, cells := 0, slots := 0, locals := 54 }
set_option maxHeartbeats 4000000 in
set_option maxRecDepth 100000 in
theorem c_Foreign_empty (l : Launch) (G : sk_G) {Q : sk_S → Prop} {I : sk_S} (hM : M_Foreign_empty Q I) : Met l yX1_empty wsX1_empty rmX1_empty (va_Pc [.ref (sk_ad G 149)] (sk_U G 198 sk_t I)) (sk_Qv G 198 sk_t Q) 0 0 (sk_A G) := by
  refine Met.ofW (cc := cX1_empty) (maxL := 1) (ret := none) (by decide) rfl ?_
  intro p e s m args below meth c s₁ B hml hv
  obtain ⟨rfl, hU, hK⟩ := hv
  have hx := B.exec
  have hb := B.bytes
  have hr0 := B.returns
  have hts := atoms_spec (ws := wsX1_empty) B.pre
  have hown : s.vm.findClass RX1 = some m.cls := findClass_of_methodNamed B.named
  have hlocks := B.notSynchronized
  have S : CallFix p m c cX1_empty 1 s ([.ref (sk_ad G 149)].toArray) wsX1_empty RX1 := ⟨hx, hb, hml, hown, hts⟩
  have hL0 := hts (.fieldLink RX1 29 "SkyLights$Foreign" "size" "I") (by decide +kernel)
  have hL1 := hts (.fieldLink RX1 20 "SkyLights$Foreign" "heads" "LSkyLights$Row;") (by decide +kernel)
  have hL2 := hts (.fieldLink RX1 23 "SkyLights$Foreign" "tails" "LSkyLights$Row;") (by decide +kernel)
  have hI1 : ∀ w ∈ u_ws RX1 TX1 7, w ∈ wsX1_empty := by decide +kernel
  have hw : sk_W G 198 sk_t I s s.heap [] := ⟨hU, va_S.rf⟩
  have hl := lv_entry ([.ref (sk_ad G 149)]) (n := 1) (Nat.le_of_ble_eq_true rfl)
  rw [lg_entry_eq]
  generalize (lg_sl ([.ref (sk_ad G 149)]) ++ List.replicate (1 - (lg_sl ([.ref (sk_ad G 149)])).length) Slot.unset).toArray = ls at hl ⊢
  have hl : lv_has ls 1 [(0, .ref (sk_ad G 149))] := hl
  suffices hgo : ∀ (H : Heap) (locs : List Loc), sk_W G 198 sk_t I s H locs → W p l e (headSpec wsX1_empty rmX1_empty).room s m ([.ref (sk_ad G 149)].toArray) below meth c H locs 0 0 (MQ below (sk_Qv G 198 sk_t Q) ([.ref (sk_ad G 149)].toArray) s 0 0 (sk_A G)) (F0 m 0 ls []) from hgo _ _ hw
  unfold M_Foreign_empty at hM
  intro H locs hw
  refine lv_aload_n hx hb (okX1_empty (0, .aload_n 0, 1) (List.mem_of_getElem? (i := 0) rfl)) rfl (lv_at hl 0 rfl) ?_
  refine lv_iconst (v := iI 0) hx hb (okX1_empty (1, .iconst 0, 1) (List.mem_of_getElem? (i := 1) rfl)) rfl ?_
  refine sk_put S hK hw kdn_149 (kd_in kdn_149) (C := RX1) (T := TX1) (N := 7) rfl hI1 tyX1 tyX1_ok nmX1 4 ⟨by decide, rfl, by decide, rfl⟩ rfl rfl (k' := 4) rfl (by decide) ⟨rfl, rfl⟩ hL0 (okX1_empty (2, .putfield 29, 3) (List.mem_of_getElem? (i := 2) rfl)) (fun H locs hw => ?_)
  refine lv_aload_n hx hb (okX1_empty (5, .aload_n 0, 1) (List.mem_of_getElem? (i := 3) rfl)) rfl (lv_at hl 0 rfl) ?_
  refine sk_getr (b := 152) S hK hw kdn_149 (kd_in kdn_149) (C := RX1) (T := TX1) (N := 7) rfl hI1 1 ⟨by decide, rfl, by decide, rfl⟩ rfl (k' := 1) rfl rfl (by decide +kernel) hL1 (okX1_empty (6, .getfield 20, 3) (List.mem_of_getElem? (i := 4) rfl)) ?_
  refine lv_iconst (v := iI (-1)) hx hb (okX1_empty (9, .iconst (-1), 1) (List.mem_of_getElem? (i := 5) rfl)) rfl ?_
  refine sk_cv (sk_runV (a := 152) (C := RX7) (As := [.int (iI ((-1)))]) (rest := []) S (c_Row_fill l G kdn_152 (by decide) hM) sk_blind gX1_empty_X7_fill rfl hdX7_fill ⟨⟨rfl, rfl⟩, Nat.le_of_ble_eq_true rfl, Nat.le_of_ble_eq_true rfl⟩ (sk_recv hK hw kdn_152 (kd_in kdn_152) (by decide) rfl) (sk_pre hK hw) rfl hl.1 rfl (Nat.le_of_ble_eq_true rfl) (okX1_empty (10, .invokevirtual 39, 3) (List.mem_of_getElem? (i := 6) rfl)) ⟨Nat.zero_le _, Nat.zero_le _⟩) hw (fun I_10 H locs hM hw => ?_)
  refine lv_aload_n hx hb (okX1_empty (13, .aload_n 0, 1) (List.mem_of_getElem? (i := 7) rfl)) rfl (lv_at hl 0 rfl) ?_
  refine sk_getr (b := 154) S hK hw kdn_149 (kd_in kdn_149) (C := RX1) (T := TX1) (N := 7) rfl hI1 2 ⟨by decide, rfl, by decide, rfl⟩ rfl (k' := 2) rfl rfl (by decide +kernel) hL2 (okX1_empty (14, .getfield 23, 3) (List.mem_of_getElem? (i := 8) rfl)) ?_
  refine lv_iconst (v := iI (-1)) hx hb (okX1_empty (17, .iconst (-1), 1) (List.mem_of_getElem? (i := 9) rfl)) rfl ?_
  refine sk_cv (sk_runV (a := 154) (C := RX7) (As := [.int (iI ((-1)))]) (rest := []) S (c_Row_fill l G kdn_154 (by decide) hM) sk_blind gX1_empty_X7_fill rfl hdX7_fill ⟨⟨rfl, rfl⟩, Nat.le_of_ble_eq_true rfl, Nat.le_of_ble_eq_true rfl⟩ (sk_recv hK hw kdn_154 (kd_in kdn_154) (by decide) rfl) (sk_pre hK hw) rfl hl.1 rfl (Nat.le_of_ble_eq_true rfl) (okX1_empty (18, .invokevirtual 39, 3) (List.mem_of_getElem? (i := 10) rfl)) ⟨Nat.zero_le _, Nat.zero_le _⟩) hw (fun I_18 H locs hM hw => ?_)
  exact sk_vret hx hb hr0 hlocks hK hw hM (okX1_empty (21, .return_, 1) (List.mem_of_getElem? (i := 11) rfl))
def rmX1_isThere : Room := { frames := 2, cells := 0, slots := 0, locals := 107 }
set_option maxHeartbeats 4000000 in
set_option maxRecDepth 100000 in
theorem c_Foreign_isThere (l : Launch) (G : sk_G) {p1 p2 : Int} (hr_p1 : rI p1) (hr_p2 : rI p2) {Q : Int → sk_S → Prop} {I : sk_S} (hM : M_Foreign_isThere p1 p2 Q I) : Met l yX1_isThere wsX1_isThere rmX1_isThere (va_Pc [.ref (sk_ad G 149), .int (iI p1), .int (iI p2)] (sk_U G 198 sk_t I)) (sk_Qz G 198 sk_t Q) 0 0 (sk_A G) := by
  refine Met.ofW (cc := cX1_isThere) (maxL := 4) (ret := (some .boolean)) (by decide) rfl ?_
  intro p e s m args below meth c s₁ B hml hv
  obtain ⟨rfl, hU, hK⟩ := hv
  have hx := B.exec
  have hb := B.bytes
  have hr0 := B.returns
  have hts := atoms_spec (ws := wsX1_isThere) B.pre
  have hown : s.vm.findClass RX1 = some m.cls := findClass_of_methodNamed B.named
  have hlocks := B.notSynchronized
  have S : CallFix p m c cX1_isThere 4 s ([.ref (sk_ad G 149), .int (iI p1), .int (iI p2)].toArray) wsX1_isThere RX1 := ⟨hx, hb, hml, hown, hts⟩
  have hL0 := hts (.fieldLink RX1 26 "SkyLights$Foreign" "cursors" "LSkyLights$Row;") (by decide +kernel)
  have hI1 : ∀ w ∈ u_ws RX1 TX1 7, w ∈ wsX1_isThere := by decide +kernel
  have hw : sk_W G 198 sk_t I s s.heap [] := ⟨hU, va_S.rf⟩
  have hl := lv_entry ([.ref (sk_ad G 149), .int (iI p1), .int (iI p2)]) (n := 4) (Nat.le_of_ble_eq_true rfl)
  rw [lg_entry_eq]
  generalize (lg_sl ([.ref (sk_ad G 149), .int (iI p1), .int (iI p2)]) ++ List.replicate (4 - (lg_sl ([.ref (sk_ad G 149), .int (iI p1), .int (iI p2)])).length) Slot.unset).toArray = ls at hl ⊢
  have hl : lv_has ls 4 [(0, .ref (sk_ad G 149)), (1, .int (iI p1)), (2, .int (iI p2))] := hl
  suffices hgo : ∀ (H : Heap) (locs : List Loc), sk_W G 198 sk_t I s H locs → W p l e (headSpec wsX1_isThere rmX1_isThere).room s m ([.ref (sk_ad G 149), .int (iI p1), .int (iI p2)].toArray) below meth c H locs 0 0 (MQ below (sk_Qz G 198 sk_t Q) ([.ref (sk_ad G 149), .int (iI p1), .int (iI p2)].toArray) s 0 0 (sk_A G)) (F0 m 0 ls []) from hgo _ _ hw
  unfold M_Foreign_isThere at hM
  intro H locs hw
  refine lv_aload_n hx hb (okX1_isThere (0, .aload_n 0, 1) (List.mem_of_getElem? (i := 0) rfl)) rfl (lv_at hl 0 rfl) ?_
  refine sk_getr (b := 156) S hK hw kdn_149 (kd_in kdn_149) (C := RX1) (T := TX1) (N := 7) rfl hI1 3 ⟨by decide, rfl, by decide, rfl⟩ rfl (k' := 3) rfl rfl (by decide +kernel) hL0 (okX1_isThere (1, .getfield 26, 3) (List.mem_of_getElem? (i := 1) rfl)) ?_
  refine lv_iload_n hx hb (okX1_isThere (4, .iload_n 1, 1) (List.mem_of_getElem? (i := 2) rfl)) rfl (lv_at hl 1 rfl) ?_
  refine sk_ci (sk_runV (a := 156) (C := RX7) (As := [.int (iI p1)]) (rest := []) S (c_Row_at l G kdn_156 hr_p1 hM) sk_blind gX1_isThere_X7_at rfl hdX7_at ⟨⟨rfl, rfl⟩, Nat.le_of_ble_eq_true rfl, Nat.le_of_ble_eq_true rfl⟩ (sk_recv hK hw kdn_156 (kd_in kdn_156) (by decide) rfl) (sk_pre hK hw) rfl hl.1 rfl (Nat.le_of_ble_eq_true rfl) (okX1_isThere (5, .invokevirtual 42, 3) (List.mem_of_getElem? (i := 3) rfl)) ⟨Nat.zero_le _, Nat.zero_le _⟩) hw (fun r_5 I_5 H locs hr_r_5 hM hw => ?_)
  refine lv_istore_n (lv' := [(3, .int (iI r_5)), (0, .ref (sk_ad G 149)), (1, .int (iI p1)), (2, .int (iI p2))]) hx hb (okX1_isThere (8, .istore_n 3, 1) (List.mem_of_getElem? (i := 4) rfl)) rfl hl (by decide) rfl (fun ls hl => ?_)
  refine lv_iload_n hx hb (okX1_isThere (9, .iload_n 3, 1) (List.mem_of_getElem? (i := 5) rfl)) rfl (lv_at hl 0 rfl) ?_
  refine lv_iconst (v := iI (-1)) hx hb (okX1_isThere (10, .iconst (-1), 1) (List.mem_of_getElem? (i := 6) rfl)) rfl ?_
  refine sk_icmp_eq (tgt := 28) hx hb hr_r_5 (by decide) (okX1_isThere (11, .if_icmp .eq 17, 3) (List.mem_of_getElem? (i := 7) rfl)) (by decide) (fun c11 => ?_) (fun c11 => ?_)
  · have hM := hM.1 c11
    refine lv_iconst (v := iI 0) hx hb (okX1_isThere (28, .iconst 0, 1) (List.mem_of_getElem? (i := 16) rfl)) rfl ?_
    exact sk_zret hx hb hr0 hlocks hK hw (Or.inl rfl) hM (okX1_isThere (29, .ireturn, 1) (List.mem_of_getElem? (i := 17) rfl))
  · have hM := hM.2 c11
    refine lv_aload_n hx hb (okX1_isThere (14, .aload_n 0, 1) (List.mem_of_getElem? (i := 8) rfl)) rfl (lv_at hl 1 rfl) ?_
    refine lv_iload_n hx hb (okX1_isThere (15, .iload_n 3, 1) (List.mem_of_getElem? (i := 9) rfl)) rfl (lv_at hl 0 rfl) ?_
    refine lv_iconst (v := iI 3) hx hb (okX1_isThere (16, .iconst 3, 1) (List.mem_of_getElem? (i := 10) rfl)) rfl ?_
    refine sk_ci (sk_runV (a := 149) (C := RX1) (As := [.int (iI r_5), .int (iI 3)]) (rest := []) S (c_Foreign_told l G hr_r_5 (by decide) hM) sk_blind gX1_isThere_X1_told rfl hdX1_told ⟨⟨rfl, rfl⟩, Nat.le_of_ble_eq_true rfl, Nat.le_of_ble_eq_true rfl⟩ (sk_recv hK hw kdn_149 (kd_in kdn_149) (by decide) rfl) (sk_pre hK hw) rfl hl.1 rfl (Nat.le_of_ble_eq_true rfl) (okX1_isThere (17, .invokevirtual 46, 3) (List.mem_of_getElem? (i := 11) rfl)) ⟨Nat.zero_le _, Nat.zero_le _⟩) hw (fun r_17 I_17 H locs hr_r_17 hM hw => ?_)
    refine lv_iload_n hx hb (okX1_isThere (20, .iload_n 2, 1) (List.mem_of_getElem? (i := 12) rfl)) rfl (lv_at hl 3 rfl) ?_
    refine sk_icmp_ne (tgt := 28) hx hb hr_r_17 hr_p2 (okX1_isThere (21, .if_icmp .ne 7, 3) (List.mem_of_getElem? (i := 13) rfl)) (by decide) (fun c21 => ?_) (fun c21 => ?_)
    · have hM := hM.1 c21
      refine lv_iconst (v := iI 0) hx hb (okX1_isThere (28, .iconst 0, 1) (List.mem_of_getElem? (i := 16) rfl)) rfl ?_
      exact sk_zret hx hb hr0 hlocks hK hw (Or.inl rfl) hM (okX1_isThere (29, .ireturn, 1) (List.mem_of_getElem? (i := 17) rfl))
    · have hM := hM.2 c21
      refine lv_iconst (v := iI 1) hx hb (okX1_isThere (24, .iconst 1, 1) (List.mem_of_getElem? (i := 14) rfl)) rfl ?_
      refine lv_goto (tgt := 29) hx hb (okX1_isThere (25, .goto 4, 3) (List.mem_of_getElem? (i := 15) rfl)) (by decide) ?_
      exact sk_zret hx hb hr0 hlocks hK hw (Or.inr rfl) hM (okX1_isThere (29, .ireturn, 1) (List.mem_of_getElem? (i := 17) rfl))
def rmX1_goBehind : Room := { frames := 3, cells := 0, slots := 0, locals := 162 }
set_option maxHeartbeats 4000000 in
set_option maxRecDepth 100000 in
theorem c_Foreign_goBehind (l : Launch) (G : sk_G) {p1 : Int} (hr_p1 : rI p1) {Q : sk_S → Prop} {I : sk_S} (hM : M_Foreign_goBehind p1 Q I) : Met l yX1_goBehind wsX1_goBehind rmX1_goBehind (va_Pc [.ref (sk_ad G 149), .int (iI p1)] (sk_U G 198 sk_t I)) (sk_Qv G 198 sk_t Q) 0 0 (sk_A G) := by
  refine Met.ofW (cc := cX1_goBehind) (maxL := 3) (ret := none) (by decide) rfl ?_
  intro p e s m args below meth c s₁ B hml hv
  obtain ⟨rfl, hU, hK⟩ := hv
  have hx := B.exec
  have hb := B.bytes
  have hr0 := B.returns
  have hts := atoms_spec (ws := wsX1_goBehind) B.pre
  have hown : s.vm.findClass RX1 = some m.cls := findClass_of_methodNamed B.named
  have hlocks := B.notSynchronized
  have S : CallFix p m c cX1_goBehind 3 s ([.ref (sk_ad G 149), .int (iI p1)].toArray) wsX1_goBehind RX1 := ⟨hx, hb, hml, hown, hts⟩
  have hL0 := hts (.fieldLink RX1 26 "SkyLights$Foreign" "cursors" "LSkyLights$Row;") (by decide +kernel)
  have hI1 : ∀ w ∈ u_ws RX1 TX1 7, w ∈ wsX1_goBehind := by decide +kernel
  have hw : sk_W G 198 sk_t I s s.heap [] := ⟨hU, va_S.rf⟩
  have hl := lv_entry ([.ref (sk_ad G 149), .int (iI p1)]) (n := 3) (Nat.le_of_ble_eq_true rfl)
  rw [lg_entry_eq]
  generalize (lg_sl ([.ref (sk_ad G 149), .int (iI p1)]) ++ List.replicate (3 - (lg_sl ([.ref (sk_ad G 149), .int (iI p1)])).length) Slot.unset).toArray = ls at hl ⊢
  have hl : lv_has ls 3 [(0, .ref (sk_ad G 149)), (1, .int (iI p1))] := hl
  suffices hgo : ∀ (H : Heap) (locs : List Loc), sk_W G 198 sk_t I s H locs → W p l e (headSpec wsX1_goBehind rmX1_goBehind).room s m ([.ref (sk_ad G 149), .int (iI p1)].toArray) below meth c H locs 0 0 (MQ below (sk_Qv G 198 sk_t Q) ([.ref (sk_ad G 149), .int (iI p1)].toArray) s 0 0 (sk_A G)) (F0 m 0 ls []) from hgo _ _ hw
  have hJ_2 : ∀ (v1 v2 : Int) (I : sk_S), rI v1 → rI v2 → L_Foreign_goBehind_2 v1 Q v2 I → ∀ (H : Heap) (locs : List Loc) (ls : Array Slot), sk_W G 198 sk_t I s H locs → lv_has ls 3 [(0, .ref (sk_ad G 149)), (1, .int (iI v1)), (2, .int (iI v2))] → W p l e (headSpec wsX1_goBehind rmX1_goBehind).room s m ([.ref (sk_ad G 149), .int (iI p1)].toArray) below meth c H locs 0 0 (MQ below (sk_Qv G 198 sk_t Q) ([.ref (sk_ad G 149), .int (iI p1)].toArray) s 0 0 (sk_A G)) (F0 m 2 ls []) := by
    intro v1 v2 I hr_v1 hr_v2 hM H locs ls hw hl
    unfold L_Foreign_goBehind_2 at hM
    obtain ⟨X_2, hX_2⟩ : ∃ X : Int → sk_S → Prop, ∀ (v2 : Int) (I : sk_S), X v2 I ↔ (rI v2 → ∀ (H : Heap) (locs : List Loc) (ls : Array Slot), sk_W G 198 sk_t I s H locs → lv_has ls 3 [(0, .ref (sk_ad G 149)), (1, .int (iI v1)), (2, .int (iI v2))] → W p l e (headSpec wsX1_goBehind rmX1_goBehind).room s m ([.ref (sk_ad G 149), .int (iI p1)].toArray) below meth c H locs 0 0 (MQ below (sk_Qv G 198 sk_t Q) ([.ref (sk_ad G 149), .int (iI p1)].toArray) s 0 0 (sk_A G)) (F0 m 2 ls [])) := ⟨_, fun _ _ => Iff.rfl⟩
    have hJ_38 : ∀ (v2 : Int) (I : sk_S), rI v2 → J_Foreign_goBehind_38 v1 v2 Q X_2 I → ∀ (H : Heap) (locs : List Loc) (ls : Array Slot), sk_W G 198 sk_t I s H locs → lv_has ls 3 [(0, .ref (sk_ad G 149)), (1, .int (iI v1)), (2, .int (iI v2))] → W p l e (headSpec wsX1_goBehind rmX1_goBehind).room s m ([.ref (sk_ad G 149), .int (iI p1)].toArray) below meth c H locs 0 0 (MQ below (sk_Qv G 198 sk_t Q) ([.ref (sk_ad G 149), .int (iI p1)].toArray) s 0 0 (sk_A G)) (F0 m 38 ls []) := by
      intro v2 I hr_v2 hM H locs ls hw hl
      unfold J_Foreign_goBehind_38 at hM
      obtain ⟨hr1, hM⟩ := hM
      obtain ⟨v2_38, ev2_38⟩ : ∃ y : Int, y = v2 + 1 := ⟨_, rfl⟩
      have hM := hM v2_38 ev2_38
      have hr_v2_38 : rI v2_38 := by rw [ev2_38]; exact hr1
      refine lv_iinc (v := iI v2_38) (lv' := [(2, .int (iI v2_38)), (0, .ref (sk_ad G 149)), (1, .int (iI v1))]) hx hb (okX1_goBehind (38, .iinc 2 1, 3) (List.mem_of_getElem? (i := 21) rfl)) hl (k := 2) rfl (by rw [ev2_38]; exact iI_add _ _) (by decide) rfl (fun ls hl => ?_)
      refine lv_goto (tgt := 2) hx hb (okX1_goBehind (41, .goto (-39), 3) (List.mem_of_getElem? (i := 22) rfl)) (by decide) ?_
      exact (hX_2 v2_38 I).1 hM hr_v2_38 H locs ls hw (lv_sub hl [1, 2, 0] rfl)
    refine (hX_2 v2 I).1 (hM X_2 (fun v2 I hM => (hX_2 v2 I).2 (fun hr_v2 H locs ls hw hl => ?_))) hr_v2 H locs ls hw hl
    refine lv_iload_n hx hb (okX1_goBehind (2, .iload_n 2, 1) (List.mem_of_getElem? (i := 2) rfl)) rfl (lv_at hl 2 rfl) ?_
    refine lv_bipush (v := iI 10) hx hb (okX1_goBehind (3, .bipush 10, 2) (List.mem_of_getElem? (i := 3) rfl)) (by decide +kernel) ?_
    refine sk_icmp_ge (tgt := 44) hx hb hr_v2 (by decide) (okX1_goBehind (5, .if_icmp .ge 39, 3) (List.mem_of_getElem? (i := 4) rfl)) (by decide) (fun c5 => ?_) (fun c5 => ?_)
    · have hM := hM.1 c5
      exact sk_vret hx hb hr0 hlocks hK hw hM (okX1_goBehind (44, .return_, 1) (List.mem_of_getElem? (i := 23) rfl))
    · have hM := hM.2 c5
      refine lv_aload_n hx hb (okX1_goBehind (8, .aload_n 0, 1) (List.mem_of_getElem? (i := 5) rfl)) rfl (lv_at hl 0 rfl) ?_
      refine lv_iload_n hx hb (okX1_goBehind (9, .iload_n 2, 1) (List.mem_of_getElem? (i := 6) rfl)) rfl (lv_at hl 2 rfl) ?_
      refine lv_iload_n hx hb (okX1_goBehind (10, .iload_n 1, 1) (List.mem_of_getElem? (i := 7) rfl)) rfl (lv_at hl 1 rfl) ?_
      refine sk_ci (sk_runV (a := 149) (C := RX1) (As := [.int (iI v2), .int (iI v1)]) (rest := []) S (c_Foreign_isThere l G hr_v2 hr_v1 hM) sk_blind gX1_goBehind_X1_isThere rfl hdX1_isThere ⟨⟨rfl, rfl⟩, Nat.le_of_ble_eq_true rfl, Nat.le_of_ble_eq_true rfl⟩ (sk_recv hK hw kdn_149 (kd_in kdn_149) (by decide) rfl) (sk_pre hK hw) rfl hl.1 rfl (Nat.le_of_ble_eq_true rfl) (okX1_goBehind (11, .invokevirtual 70, 3) (List.mem_of_getElem? (i := 8) rfl)) ⟨Nat.zero_le _, Nat.zero_le _⟩) hw (fun r_11 I_11 H locs hr_r_11 hM hw => ?_)
      obtain ⟨hb_r_11, hM⟩ := hM
      refine sk_if_eq (tgt := 38) hx hb hr_r_11 (okX1_goBehind (14, .ifCond .eq 24, 3) (List.mem_of_getElem? (i := 9) rfl)) (by decide) (fun c14 => ?_) (fun c14 => ?_)
      · have hM := hM.1 c14
        exact hJ_38 v2 I_11 hr_v2 hM H locs ls hw (lv_sub hl [0, 1, 2] rfl)
      · have hM := hM.2 c14
        refine lv_aload_n hx hb (okX1_goBehind (17, .aload_n 0, 1) (List.mem_of_getElem? (i := 10) rfl)) rfl (lv_at hl 0 rfl) ?_
        refine sk_getr (b := 156) S hK hw kdn_149 (kd_in kdn_149) (C := RX1) (T := TX1) (N := 7) rfl hI1 3 ⟨by decide, rfl, by decide, rfl⟩ rfl (k' := 3) rfl rfl (by decide +kernel) hL0 (okX1_goBehind (18, .getfield 26, 3) (List.mem_of_getElem? (i := 11) rfl)) ?_
        refine lv_iload_n hx hb (okX1_goBehind (21, .iload_n 2, 1) (List.mem_of_getElem? (i := 12) rfl)) rfl (lv_at hl 2 rfl) ?_
        refine lv_aload_n hx hb (okX1_goBehind (22, .aload_n 0, 1) (List.mem_of_getElem? (i := 13) rfl)) rfl (lv_at hl 0 rfl) ?_
        refine lv_aload_n hx hb (okX1_goBehind (23, .aload_n 0, 1) (List.mem_of_getElem? (i := 14) rfl)) rfl (lv_at hl 0 rfl) ?_
        refine sk_getr (b := 156) S hK hw kdn_149 (kd_in kdn_149) (C := RX1) (T := TX1) (N := 7) rfl hI1 3 ⟨by decide, rfl, by decide, rfl⟩ rfl (k' := 3) rfl rfl (by decide +kernel) hL0 (okX1_goBehind (24, .getfield 26, 3) (List.mem_of_getElem? (i := 15) rfl)) ?_
        refine lv_iload_n hx hb (okX1_goBehind (27, .iload_n 2, 1) (List.mem_of_getElem? (i := 16) rfl)) rfl (lv_at hl 2 rfl) ?_
        refine sk_ci (sk_runV (a := 156) (C := RX7) (As := [.int (iI v2)]) (rest := [.ref (sk_ad G 149), .int (iI v2), .ref (sk_ad G 156)]) S (c_Row_at l G kdn_156 hr_v2 hM) sk_blind gX1_goBehind_X7_at rfl hdX7_at ⟨⟨rfl, rfl⟩, Nat.le_of_ble_eq_true rfl, Nat.le_of_ble_eq_true rfl⟩ (sk_recv hK hw kdn_156 (kd_in kdn_156) (by decide) rfl) (sk_pre hK hw) rfl hl.1 rfl (Nat.le_of_ble_eq_true rfl) (okX1_goBehind (28, .invokevirtual 42, 3) (List.mem_of_getElem? (i := 17) rfl)) ⟨Nat.zero_le _, Nat.zero_le _⟩) hw (fun r_28 I_28 H locs hr_r_28 hM hw => ?_)
        refine lv_iconst (v := iI 4) hx hb (okX1_goBehind (31, .iconst 4, 1) (List.mem_of_getElem? (i := 18) rfl)) rfl ?_
        refine sk_ci (sk_runV (a := 149) (C := RX1) (As := [.int (iI r_28), .int (iI 4)]) (rest := [.int (iI v2), .ref (sk_ad G 156)]) S (c_Foreign_told l G hr_r_28 (by decide) hM) sk_blind gX1_goBehind_X1_told rfl hdX1_told ⟨⟨rfl, rfl⟩, Nat.le_of_ble_eq_true rfl, Nat.le_of_ble_eq_true rfl⟩ (sk_recv hK hw kdn_149 (kd_in kdn_149) (by decide) rfl) (sk_pre hK hw) rfl hl.1 rfl (Nat.le_of_ble_eq_true rfl) (okX1_goBehind (32, .invokevirtual 46, 3) (List.mem_of_getElem? (i := 19) rfl)) ⟨Nat.zero_le _, Nat.zero_le _⟩) hw (fun r_32 I_32 H locs hr_r_32 hM hw => ?_)
        refine sk_cv (sk_runV (a := 156) (C := RX7) (As := [.int (iI v2), .int (iI r_32)]) (rest := []) S (c_Row_put l G kdn_156 hr_v2 hr_r_32 hM) sk_blind gX1_goBehind_X7_put rfl hdX7_put ⟨⟨rfl, rfl⟩, Nat.le_of_ble_eq_true rfl, Nat.le_of_ble_eq_true rfl⟩ (sk_recv hK hw kdn_156 (kd_in kdn_156) (by decide) rfl) (sk_pre hK hw) rfl hl.1 rfl (Nat.le_of_ble_eq_true rfl) (okX1_goBehind (35, .invokevirtual 50, 3) (List.mem_of_getElem? (i := 20) rfl)) ⟨Nat.zero_le _, Nat.zero_le _⟩) hw (fun I_35 H locs hM hw => ?_)
        exact hJ_38 v2 I_35 hr_v2 hM H locs ls hw (lv_sub hl [0, 1, 2] rfl)
  unfold M_Foreign_goBehind at hM
  intro H locs hw
  refine lv_iconst (v := iI 0) hx hb (okX1_goBehind (0, .iconst 0, 1) (List.mem_of_getElem? (i := 0) rfl)) rfl ?_
  refine lv_istore_n (lv' := [(2, .int (iI 0)), (0, .ref (sk_ad G 149)), (1, .int (iI p1))]) hx hb (okX1_goBehind (1, .istore_n 2, 1) (List.mem_of_getElem? (i := 1) rfl)) rfl hl (by decide) rfl (fun ls hl => ?_)
  exact hJ_2 p1 0 I hr_p1 (by decide) hM H locs ls hw (lv_sub hl [1, 2, 0] rfl)
def rmX1_isInZone : Room := { frames := 2, cells := 0, slots := 0, locals := 135 }
set_option maxHeartbeats 4000000 in
set_option maxRecDepth 100000 in
theorem c_Foreign_isInZone (l : Launch) (G : sk_G) {p1 : Int} (hr_p1 : rI p1) {Q : Int → sk_S → Prop} {I : sk_S} (hM : M_Foreign_isInZone p1 Q I) : Met l yX1_isInZone wsX1_isInZone rmX1_isInZone (va_Pc [.ref (sk_ad G 149), .int (iI p1), .ref (sk_ad G 36)] (sk_U G 198 sk_t I)) (sk_Qz G 198 sk_t Q) 0 0 (sk_A G) := by
  refine Met.ofW (cc := cX1_isInZone) (maxL := 4) (ret := (some .boolean)) (by decide) rfl ?_
  intro p e s m args below meth c s₁ B hml hv
  obtain ⟨rfl, hU, hK⟩ := hv
  have hx := B.exec
  have hb := B.bytes
  have hr0 := B.returns
  have hts := atoms_spec (ws := wsX1_isInZone) B.pre
  have hown : s.vm.findClass RX1 = some m.cls := findClass_of_methodNamed B.named
  have hlocks := B.notSynchronized
  have S : CallFix p m c cX1_isInZone 4 s ([.ref (sk_ad G 149), .int (iI p1), .ref (sk_ad G 36)].toArray) wsX1_isInZone RX1 := ⟨hx, hb, hml, hown, hts⟩
  have hw : sk_W G 198 sk_t I s s.heap [] := ⟨hU, va_S.rf⟩
  have hl := lv_entry ([.ref (sk_ad G 149), .int (iI p1), .ref (sk_ad G 36)]) (n := 4) (Nat.le_of_ble_eq_true rfl)
  rw [lg_entry_eq]
  generalize (lg_sl ([.ref (sk_ad G 149), .int (iI p1), .ref (sk_ad G 36)]) ++ List.replicate (4 - (lg_sl ([.ref (sk_ad G 149), .int (iI p1), .ref (sk_ad G 36)])).length) Slot.unset).toArray = ls at hl ⊢
  have hl : lv_has ls 4 [(0, .ref (sk_ad G 149)), (1, .int (iI p1)), (2, .ref (sk_ad G 36))] := hl
  suffices hgo : ∀ (H : Heap) (locs : List Loc), sk_W G 198 sk_t I s H locs → W p l e (headSpec wsX1_isInZone rmX1_isInZone).room s m ([.ref (sk_ad G 149), .int (iI p1), .ref (sk_ad G 36)].toArray) below meth c H locs 0 0 (MQ below (sk_Qz G 198 sk_t Q) ([.ref (sk_ad G 149), .int (iI p1), .ref (sk_ad G 36)].toArray) s 0 0 (sk_A G)) (F0 m 0 ls []) from hgo _ _ hw
  unfold M_Foreign_isInZone at hM
  intro H locs hw
  refine lv_aload_n hx hb (okX1_isInZone (0, .aload_n 0, 1) (List.mem_of_getElem? (i := 0) rfl)) rfl (lv_at hl 0 rfl) ?_
  refine lv_iload_n hx hb (okX1_isInZone (1, .iload_n 1, 1) (List.mem_of_getElem? (i := 1) rfl)) rfl (lv_at hl 1 rfl) ?_
  refine sk_ci (sk_runV (a := 149) (C := RX1) (As := [.int (iI p1)]) (rest := []) S (c_Foreign_end l G hr_p1 hM) sk_blind gX1_isInZone_X1_end rfl hdX1_end ⟨⟨rfl, rfl⟩, Nat.le_of_ble_eq_true rfl, Nat.le_of_ble_eq_true rfl⟩ (sk_recv hK hw kdn_149 (kd_in kdn_149) (by decide) rfl) (sk_pre hK hw) rfl hl.1 rfl (Nat.le_of_ble_eq_true rfl) (okX1_isInZone (2, .invokevirtual 90, 3) (List.mem_of_getElem? (i := 2) rfl)) ⟨Nat.zero_le _, Nat.zero_le _⟩) hw (fun r_2 I_2 H locs hr_r_2 hM hw => ?_)
  refine lv_istore_n (lv' := [(3, .int (iI r_2)), (0, .ref (sk_ad G 149)), (1, .int (iI p1)), (2, .ref (sk_ad G 36))]) hx hb (okX1_isInZone (5, .istore_n 3, 1) (List.mem_of_getElem? (i := 3) rfl)) rfl hl (by decide) rfl (fun ls hl => ?_)
  refine lv_aload_n hx hb (okX1_isInZone (6, .aload_n 2, 1) (List.mem_of_getElem? (i := 4) rfl)) rfl (lv_at hl 3 rfl) ?_
  refine lv_aload_n hx hb (okX1_isInZone (7, .aload_n 0, 1) (List.mem_of_getElem? (i := 5) rfl)) rfl (lv_at hl 1 rfl) ?_
  refine lv_iload_n hx hb (okX1_isInZone (8, .iload_n 1, 1) (List.mem_of_getElem? (i := 6) rfl)) rfl (lv_at hl 2 rfl) ?_
  refine lv_iconst (v := iI 0) hx hb (okX1_isInZone (9, .iconst 0, 1) (List.mem_of_getElem? (i := 7) rfl)) rfl ?_
  refine sk_ci (sk_runV (a := 149) (C := RX1) (As := [.int (iI p1), .int (iI 0)]) (rest := [.ref (sk_ad G 36)]) S (c_Foreign_told l G hr_p1 (by decide) hM) sk_blind gX1_isInZone_X1_told rfl hdX1_told ⟨⟨rfl, rfl⟩, Nat.le_of_ble_eq_true rfl, Nat.le_of_ble_eq_true rfl⟩ (sk_recv hK hw kdn_149 (kd_in kdn_149) (by decide) rfl) (sk_pre hK hw) rfl hl.1 rfl (Nat.le_of_ble_eq_true rfl) (okX1_isInZone (10, .invokevirtual 46, 3) (List.mem_of_getElem? (i := 8) rfl)) ⟨Nat.zero_le _, Nat.zero_le _⟩) hw (fun r_10 I_10 H locs hr_r_10 hM hw => ?_)
  refine lv_aload_n hx hb (okX1_isInZone (13, .aload_n 0, 1) (List.mem_of_getElem? (i := 9) rfl)) rfl (lv_at hl 1 rfl) ?_
  refine lv_iload_n hx hb (okX1_isInZone (14, .iload_n 1, 1) (List.mem_of_getElem? (i := 10) rfl)) rfl (lv_at hl 2 rfl) ?_
  refine lv_iconst (v := iI 1) hx hb (okX1_isInZone (15, .iconst 1, 1) (List.mem_of_getElem? (i := 11) rfl)) rfl ?_
  refine sk_ci (sk_runV (a := 149) (C := RX1) (As := [.int (iI p1), .int (iI 1)]) (rest := [.int (iI r_10), .ref (sk_ad G 36)]) S (c_Foreign_told l G hr_p1 (by decide) hM) sk_blind gX1_isInZone_X1_told rfl hdX1_told ⟨⟨rfl, rfl⟩, Nat.le_of_ble_eq_true rfl, Nat.le_of_ble_eq_true rfl⟩ (sk_recv hK hw kdn_149 (kd_in kdn_149) (by decide) rfl) (sk_pre hK hw) rfl hl.1 rfl (Nat.le_of_ble_eq_true rfl) (okX1_isInZone (16, .invokevirtual 46, 3) (List.mem_of_getElem? (i := 12) rfl)) ⟨Nat.zero_le _, Nat.zero_le _⟩) hw (fun r_16 I_16 H locs hr_r_16 hM hw => ?_)
  refine lv_aload_n hx hb (okX1_isInZone (19, .aload_n 0, 1) (List.mem_of_getElem? (i := 13) rfl)) rfl (lv_at hl 1 rfl) ?_
  refine lv_iload_n hx hb (okX1_isInZone (20, .iload_n 3, 1) (List.mem_of_getElem? (i := 14) rfl)) rfl (lv_at hl 0 rfl) ?_
  refine lv_iconst (v := iI 0) hx hb (okX1_isInZone (21, .iconst 0, 1) (List.mem_of_getElem? (i := 15) rfl)) rfl ?_
  refine sk_ci (sk_runV (a := 149) (C := RX1) (As := [.int (iI r_2), .int (iI 0)]) (rest := [.int (iI r_16), .int (iI r_10), .ref (sk_ad G 36)]) S (c_Foreign_told l G hr_r_2 (by decide) hM) sk_blind gX1_isInZone_X1_told rfl hdX1_told ⟨⟨rfl, rfl⟩, Nat.le_of_ble_eq_true rfl, Nat.le_of_ble_eq_true rfl⟩ (sk_recv hK hw kdn_149 (kd_in kdn_149) (by decide) rfl) (sk_pre hK hw) rfl hl.1 rfl (Nat.le_of_ble_eq_true rfl) (okX1_isInZone (22, .invokevirtual 46, 3) (List.mem_of_getElem? (i := 16) rfl)) ⟨Nat.zero_le _, Nat.zero_le _⟩) hw (fun r_22 I_22 H locs hr_r_22 hM hw => ?_)
  refine lv_aload_n hx hb (okX1_isInZone (25, .aload_n 0, 1) (List.mem_of_getElem? (i := 17) rfl)) rfl (lv_at hl 1 rfl) ?_
  refine lv_iload_n hx hb (okX1_isInZone (26, .iload_n 3, 1) (List.mem_of_getElem? (i := 18) rfl)) rfl (lv_at hl 0 rfl) ?_
  refine lv_iconst (v := iI 1) hx hb (okX1_isInZone (27, .iconst 1, 1) (List.mem_of_getElem? (i := 19) rfl)) rfl ?_
  refine sk_ci (sk_runV (a := 149) (C := RX1) (As := [.int (iI r_2), .int (iI 1)]) (rest := [.int (iI r_22), .int (iI r_16), .int (iI r_10), .ref (sk_ad G 36)]) S (c_Foreign_told l G hr_r_2 (by decide) hM) sk_blind gX1_isInZone_X1_told rfl hdX1_told ⟨⟨rfl, rfl⟩, Nat.le_of_ble_eq_true rfl, Nat.le_of_ble_eq_true rfl⟩ (sk_recv hK hw kdn_149 (kd_in kdn_149) (by decide) rfl) (sk_pre hK hw) rfl hl.1 rfl (Nat.le_of_ble_eq_true rfl) (okX1_isInZone (28, .invokevirtual 46, 3) (List.mem_of_getElem? (i := 20) rfl)) ⟨Nat.zero_le _, Nat.zero_le _⟩) hw (fun r_28 I_28 H locs hr_r_28 hM hw => ?_)
  refine sk_ci (sk_runV (a := 36) (C := RX0) (As := [.int (iI r_10), .int (iI r_16), .int (iI r_22), .int (iI r_28)]) (rest := []) S (c_Air_isInZone l G hr_r_10 hr_r_16 hr_r_22 hr_r_28 hM) sk_blind gX1_isInZone_X0_isInZone rfl hdX0_isInZone ⟨⟨rfl, rfl⟩, Nat.le_of_ble_eq_true rfl, Nat.le_of_ble_eq_true rfl⟩ (sk_recv hK hw kdn_36 (kd_in kdn_36) (by decide) rfl) (sk_pre hK hw) rfl hl.1 rfl (Nat.le_of_ble_eq_true rfl) (okX1_isInZone (31, .invokevirtual 93, 3) (List.mem_of_getElem? (i := 21) rfl)) ⟨Nat.zero_le _, Nat.zero_le _⟩) hw (fun r_31 I_31 H locs hr_r_31 hM hw => ?_)
  obtain ⟨hb_r_31, hM⟩ := hM
  exact sk_zret hx hb hr0 hlocks hK hw hb_r_31 hM (okX1_isInZone (34, .ireturn, 1) (List.mem_of_getElem? (i := 22) rfl))
def rmX1_partner : Room := { frames := 3, cells := 0, slots := 0, locals := 166 }
set_option maxHeartbeats 4000000 in
set_option maxRecDepth 100000 in
theorem c_Foreign_partner (l : Launch) (G : sk_G) {p1 p2 : Int} (hr_p1 : rI p1) (hr_p2 : rI p2) {Q : Int → sk_S → Prop} {I : sk_S} (hM : M_Foreign_partner p1 p2 Q I) : Met l yX1_partner wsX1_partner rmX1_partner (va_Pc [.ref (sk_ad G 149), .int (iI p1), .int (iI p2), .ref (sk_ad G 36)] (sk_U G 198 sk_t I)) (sk_Qi G 198 sk_t Q) 0 0 (sk_A G) := by
  refine Met.ofW (cc := cX1_partner) (maxL := 5) (ret := (some .int)) (by decide) rfl ?_
  intro p e s m args below meth c s₁ B hml hv
  obtain ⟨rfl, hU, hK⟩ := hv
  have hx := B.exec
  have hb := B.bytes
  have hr0 := B.returns
  have hts := atoms_spec (ws := wsX1_partner) B.pre
  have hown : s.vm.findClass RX1 = some m.cls := findClass_of_methodNamed B.named
  have hlocks := B.notSynchronized
  have S : CallFix p m c cX1_partner 5 s ([.ref (sk_ad G 149), .int (iI p1), .int (iI p2), .ref (sk_ad G 36)].toArray) wsX1_partner RX1 := ⟨hx, hb, hml, hown, hts⟩
  have hL0 := hts (.fieldLink RX1 26 "SkyLights$Foreign" "cursors" "LSkyLights$Row;") (by decide +kernel)
  have hI0 : ∀ w ∈ u_ws RX0 TX0 4, w ∈ wsX1_partner := by decide +kernel
  have hI1 : ∀ w ∈ u_ws RX1 TX1 7, w ∈ wsX1_partner := by decide +kernel
  have hw : sk_W G 198 sk_t I s s.heap [] := ⟨hU, va_S.rf⟩
  have hl := lv_entry ([.ref (sk_ad G 149), .int (iI p1), .int (iI p2), .ref (sk_ad G 36)]) (n := 5) (Nat.le_of_ble_eq_true rfl)
  rw [lg_entry_eq]
  generalize (lg_sl ([.ref (sk_ad G 149), .int (iI p1), .int (iI p2), .ref (sk_ad G 36)]) ++ List.replicate (5 - (lg_sl ([.ref (sk_ad G 149), .int (iI p1), .int (iI p2), .ref (sk_ad G 36)])).length) Slot.unset).toArray = ls at hl ⊢
  have hl : lv_has ls 5 [(0, .ref (sk_ad G 149)), (1, .int (iI p1)), (2, .int (iI p2)), (3, .ref (sk_ad G 36))] := hl
  suffices hgo : ∀ (H : Heap) (locs : List Loc), sk_W G 198 sk_t I s H locs → W p l e (headSpec wsX1_partner rmX1_partner).room s m ([.ref (sk_ad G 149), .int (iI p1), .int (iI p2), .ref (sk_ad G 36)].toArray) below meth c H locs 0 0 (MQ below (sk_Qi G 198 sk_t Q) ([.ref (sk_ad G 149), .int (iI p1), .int (iI p2), .ref (sk_ad G 36)].toArray) s 0 0 (sk_A G)) (F0 m 0 ls []) from hgo _ _ hw
  have hJ_5 : ∀ (v1 v2 v4 : Int) (I : sk_S), rI v1 → rI v2 → rI v4 → L_Foreign_partner_5 v1 v2 Q v4 I → ∀ (H : Heap) (locs : List Loc) (ls : Array Slot), sk_W G 198 sk_t I s H locs → lv_has ls 5 [(0, .ref (sk_ad G 149)), (1, .int (iI v1)), (2, .int (iI v2)), (3, .ref (sk_ad G 36)), (4, .int (iI v4))] → W p l e (headSpec wsX1_partner rmX1_partner).room s m ([.ref (sk_ad G 149), .int (iI p1), .int (iI p2), .ref (sk_ad G 36)].toArray) below meth c H locs 0 0 (MQ below (sk_Qi G 198 sk_t Q) ([.ref (sk_ad G 149), .int (iI p1), .int (iI p2), .ref (sk_ad G 36)].toArray) s 0 0 (sk_A G)) (F0 m 5 ls []) := by
    intro v1 v2 v4 I hr_v1 hr_v2 hr_v4 hM H locs ls hw hl
    unfold L_Foreign_partner_5 at hM
    obtain ⟨X_5, hX_5⟩ : ∃ X : Int → sk_S → Prop, ∀ (v4 : Int) (I : sk_S), X v4 I ↔ (rI v4 → ∀ (H : Heap) (locs : List Loc) (ls : Array Slot), sk_W G 198 sk_t I s H locs → lv_has ls 5 [(0, .ref (sk_ad G 149)), (1, .int (iI v1)), (2, .int (iI v2)), (3, .ref (sk_ad G 36)), (4, .int (iI v4))] → W p l e (headSpec wsX1_partner rmX1_partner).room s m ([.ref (sk_ad G 149), .int (iI p1), .int (iI p2), .ref (sk_ad G 36)].toArray) below meth c H locs 0 0 (MQ below (sk_Qi G 198 sk_t Q) ([.ref (sk_ad G 149), .int (iI p1), .int (iI p2), .ref (sk_ad G 36)].toArray) s 0 0 (sk_A G)) (F0 m 5 ls [])) := ⟨_, fun _ _ => Iff.rfl⟩
    have hJ_53 : ∀ (v4 : Int) (I : sk_S), rI v4 → J_Foreign_partner_53 v1 v2 v4 Q X_5 I → ∀ (H : Heap) (locs : List Loc) (ls : Array Slot), sk_W G 198 sk_t I s H locs → lv_has ls 5 [(0, .ref (sk_ad G 149)), (1, .int (iI v1)), (2, .int (iI v2)), (3, .ref (sk_ad G 36)), (4, .int (iI v4))] → W p l e (headSpec wsX1_partner rmX1_partner).room s m ([.ref (sk_ad G 149), .int (iI p1), .int (iI p2), .ref (sk_ad G 36)].toArray) below meth c H locs 0 0 (MQ below (sk_Qi G 198 sk_t Q) ([.ref (sk_ad G 149), .int (iI p1), .int (iI p2), .ref (sk_ad G 36)].toArray) s 0 0 (sk_A G)) (F0 m 53 ls []) := by
      intro v4 I hr_v4 hM H locs ls hw hl
      unfold J_Foreign_partner_53 at hM
      obtain ⟨hr3, hM⟩ := hM
      obtain ⟨v4_53, ev4_53⟩ : ∃ y : Int, y = v4 + 1 := ⟨_, rfl⟩
      have hM := hM v4_53 ev4_53
      have hr_v4_53 : rI v4_53 := by rw [ev4_53]; exact hr3
      refine lv_iinc (v := iI v4_53) (lv' := [(4, .int (iI v4_53)), (0, .ref (sk_ad G 149)), (1, .int (iI v1)), (2, .int (iI v2)), (3, .ref (sk_ad G 36))]) hx hb (okX1_partner (53, .iinc 4 1, 3) (List.mem_of_getElem? (i := 27) rfl)) hl (k := 4) rfl (by rw [ev4_53]; exact iI_add _ _) (by decide) rfl (fun ls hl => ?_)
      refine lv_goto (tgt := 5) hx hb (okX1_partner (56, .goto (-51), 3) (List.mem_of_getElem? (i := 28) rfl)) (by decide) ?_
      exact (hX_5 v4_53 I).1 hM hr_v4_53 H locs ls hw (lv_sub hl [1, 2, 3, 4, 0] rfl)
    refine (hX_5 v4 I).1 (hM X_5 (fun v4 I hM => (hX_5 v4 I).2 (fun hr_v4 H locs ls hw hl => ?_))) hr_v4 H locs ls hw hl
    refine lv_iload hx hb (okX1_partner (5, .iload 4, 2) (List.mem_of_getElem? (i := 4) rfl)) (lv_at hl 4 rfl) ?_
    refine lv_bipush (v := iI 10) hx hb (okX1_partner (7, .bipush 10, 2) (List.mem_of_getElem? (i := 5) rfl)) (by decide +kernel) ?_
    refine sk_icmp_ge (tgt := 59) hx hb hr_v4 (by decide) (okX1_partner (9, .if_icmp .ge 50, 3) (List.mem_of_getElem? (i := 6) rfl)) (by decide) (fun c9 => ?_) (fun c9 => ?_)
    · have hM := hM.1 c9
      refine lv_iconst (v := iI (-1)) hx hb (okX1_partner (59, .iconst (-1), 1) (List.mem_of_getElem? (i := 29) rfl)) rfl ?_
      exact sk_iret hx hb hr0 hlocks hK hw (by decide) hM (okX1_partner (60, .ireturn, 1) (List.mem_of_getElem? (i := 30) rfl))
    · have hM := hM.2 c9
      refine lv_aload_n hx hb (okX1_partner (12, .aload_n 0, 1) (List.mem_of_getElem? (i := 7) rfl)) rfl (lv_at hl 0 rfl) ?_
      refine lv_iload hx hb (okX1_partner (13, .iload 4, 2) (List.mem_of_getElem? (i := 8) rfl)) (lv_at hl 4 rfl) ?_
      refine lv_iload_n hx hb (okX1_partner (15, .iload_n 2, 1) (List.mem_of_getElem? (i := 9) rfl)) rfl (lv_at hl 2 rfl) ?_
      refine sk_ci (sk_runV (a := 149) (C := RX1) (As := [.int (iI v4), .int (iI v2)]) (rest := []) S (c_Foreign_isThere l G hr_v4 hr_v2 hM) sk_blind gX1_partner_X1_isThere rfl hdX1_isThere ⟨⟨rfl, rfl⟩, Nat.le_of_ble_eq_true rfl, Nat.le_of_ble_eq_true rfl⟩ (sk_recv hK hw kdn_149 (kd_in kdn_149) (by decide) rfl) (sk_pre hK hw) rfl hl.1 rfl (Nat.le_of_ble_eq_true rfl) (okX1_partner (16, .invokevirtual 70, 3) (List.mem_of_getElem? (i := 10) rfl)) ⟨Nat.zero_le _, Nat.zero_le _⟩) hw (fun r_16 I_16 H locs hr_r_16 hM hw => ?_)
      obtain ⟨hb_r_16, hM⟩ := hM
      refine sk_if_eq (tgt := 53) hx hb hr_r_16 (okX1_partner (19, .ifCond .eq 34, 3) (List.mem_of_getElem? (i := 11) rfl)) (by decide) (fun c19 => ?_) (fun c19 => ?_)
      · have hM := hM.1 c19
        exact hJ_53 v4 I_16 hr_v4 hM H locs ls hw (lv_sub hl [0, 1, 2, 3, 4] rfl)
      · have hM := hM.2 c19
        refine lv_aload_n hx hb (okX1_partner (22, .aload_n 0, 1) (List.mem_of_getElem? (i := 12) rfl)) rfl (lv_at hl 0 rfl) ?_
        refine lv_aload_n hx hb (okX1_partner (23, .aload_n 0, 1) (List.mem_of_getElem? (i := 13) rfl)) rfl (lv_at hl 0 rfl) ?_
        refine sk_getr (b := 156) S hK hw kdn_149 (kd_in kdn_149) (C := RX1) (T := TX1) (N := 7) rfl hI1 3 ⟨by decide, rfl, by decide, rfl⟩ rfl (k' := 3) rfl rfl (by decide +kernel) hL0 (okX1_partner (24, .getfield 26, 3) (List.mem_of_getElem? (i := 14) rfl)) ?_
        refine lv_iload_n hx hb (okX1_partner (27, .iload_n 1, 1) (List.mem_of_getElem? (i := 15) rfl)) rfl (lv_at hl 1 rfl) ?_
        refine sk_ci (sk_runV (a := 156) (C := RX7) (As := [.int (iI v1)]) (rest := [.ref (sk_ad G 149)]) S (c_Row_at l G kdn_156 hr_v1 hM) sk_blind gX1_partner_X7_at rfl hdX7_at ⟨⟨rfl, rfl⟩, Nat.le_of_ble_eq_true rfl, Nat.le_of_ble_eq_true rfl⟩ (sk_recv hK hw kdn_156 (kd_in kdn_156) (by decide) rfl) (sk_pre hK hw) rfl hl.1 rfl (Nat.le_of_ble_eq_true rfl) (okX1_partner (28, .invokevirtual 42, 3) (List.mem_of_getElem? (i := 16) rfl)) ⟨Nat.zero_le _, Nat.zero_le _⟩) hw (fun r_28 I_28 H locs hr_r_28 hM hw => ?_)
        refine lv_aload_n hx hb (okX1_partner (31, .aload_n 0, 1) (List.mem_of_getElem? (i := 17) rfl)) rfl (lv_at hl 0 rfl) ?_
        refine sk_getr (b := 156) S hK hw kdn_149 (kd_in kdn_149) (C := RX1) (T := TX1) (N := 7) rfl hI1 3 ⟨by decide, rfl, by decide, rfl⟩ rfl (k' := 3) rfl rfl (by decide +kernel) hL0 (okX1_partner (32, .getfield 26, 3) (List.mem_of_getElem? (i := 18) rfl)) ?_
        refine lv_iload hx hb (okX1_partner (35, .iload 4, 2) (List.mem_of_getElem? (i := 19) rfl)) (lv_at hl 4 rfl) ?_
        refine sk_ci (sk_runV (a := 156) (C := RX7) (As := [.int (iI v4)]) (rest := [.int (iI r_28), .ref (sk_ad G 149)]) S (c_Row_at l G kdn_156 hr_v4 hM) sk_blind gX1_partner_X7_at rfl hdX7_at ⟨⟨rfl, rfl⟩, Nat.le_of_ble_eq_true rfl, Nat.le_of_ble_eq_true rfl⟩ (sk_recv hK hw kdn_156 (kd_in kdn_156) (by decide) rfl) (sk_pre hK hw) rfl hl.1 rfl (Nat.le_of_ble_eq_true rfl) (okX1_partner (37, .invokevirtual 42, 3) (List.mem_of_getElem? (i := 20) rfl)) ⟨Nat.zero_le _, Nat.zero_le _⟩) hw (fun r_37 I_37 H locs hr_r_37 hM hw => ?_)
        refine lv_aload_n hx hb (okX1_partner (40, .aload_n 3, 1) (List.mem_of_getElem? (i := 21) rfl)) rfl (lv_at hl 3 rfl) ?_
        have hr2 := hw.1.2.2 36 0
        refine sk_getiN S hK hw kdn_36 (kd_in kdn_36) (C := RX0) (T := TX0) (N := 4) rfl hI0 0 ⟨by decide, rfl, by decide, rfl⟩ rfl (k' := 0) rfl (va_Nw.use rfl (hK.2.1 ("SkyLights$Foreign", 81, "SkyLights$Air", "gap", "I") (by decide +kernel))) (okX1_partner (41, .getfield 81, 3) (List.mem_of_getElem? (i := 22) rfl)) ?_
        refine sk_ci (sk_runV (a := 149) (C := RX1) (As := [.int (iI r_28), .int (iI r_37), .int (iI (I_37 36 0))]) (rest := []) S (c_Foreign_areNear l G hr_r_28 hr_r_37 hr2 hM) sk_blind gX1_partner_X1_areNear rfl hdX1_areNear ⟨⟨rfl, rfl⟩, Nat.le_of_ble_eq_true rfl, Nat.le_of_ble_eq_true rfl⟩ (sk_recv hK hw kdn_149 (kd_in kdn_149) (by decide) rfl) (sk_pre hK hw) rfl hl.1 rfl (Nat.le_of_ble_eq_true rfl) (okX1_partner (44, .invokevirtual 86, 3) (List.mem_of_getElem? (i := 23) rfl)) ⟨Nat.zero_le _, Nat.zero_le _⟩) hw (fun r_44 I_44 H locs hr_r_44 hM hw => ?_)
        obtain ⟨hb_r_44, hM⟩ := hM
        refine sk_if_eq (tgt := 53) hx hb hr_r_44 (okX1_partner (47, .ifCond .eq 6, 3) (List.mem_of_getElem? (i := 24) rfl)) (by decide) (fun c47 => ?_) (fun c47 => ?_)
        · have hM := hM.1 c47
          exact hJ_53 v4 I_44 hr_v4 hM H locs ls hw (lv_sub hl [0, 1, 2, 3, 4] rfl)
        · have hM := hM.2 c47
          refine lv_iload hx hb (okX1_partner (50, .iload 4, 2) (List.mem_of_getElem? (i := 25) rfl)) (lv_at hl 4 rfl) ?_
          exact sk_iret hx hb hr0 hlocks hK hw hr_v4 hM (okX1_partner (52, .ireturn, 1) (List.mem_of_getElem? (i := 26) rfl))
  unfold M_Foreign_partner at hM
  intro H locs hw
  refine lv_iload_n hx hb (okX1_partner (0, .iload_n 1, 1) (List.mem_of_getElem? (i := 0) rfl)) rfl (lv_at hl 1 rfl) ?_
  refine lv_iconst (v := iI 1) hx hb (okX1_partner (1, .iconst 1, 1) (List.mem_of_getElem? (i := 1) rfl)) rfl ?_
  refine sk_iadd hx hb (okX1_partner (2, .iadd, 1) (List.mem_of_getElem? (i := 2) rfl)) ?_
  obtain ⟨hr1, hM⟩ := hM
  refine sk_nm (fun v4_3 ev4_3 => ?_)
  have hM := hM v4_3 ev4_3
  have hr_v4_3 : rI v4_3 := by rw [ev4_3]; exact hr1
  refine lv_istore (lv' := [(4, .int (iI v4_3)), (0, .ref (sk_ad G 149)), (1, .int (iI p1)), (2, .int (iI p2)), (3, .ref (sk_ad G 36))]) hx hb (okX1_partner (3, .istore 4, 2) (List.mem_of_getElem? (i := 3) rfl)) hl (by decide) rfl (fun ls hl => ?_)
  exact hJ_5 p1 p2 v4_3 I hr_p1 hr_p2 hr_v4_3 hM H locs ls hw (lv_sub hl [1, 2, 3, 4, 0] rfl)
def rmX1_isClashAt : Room := { frames := 4, cells := 0, slots := 0, locals := 222 }
set_option maxHeartbeats 4000000 in
set_option maxRecDepth 100000 in
theorem c_Foreign_isClashAt (l : Launch) (G : sk_G) {p1 : Int} (hr_p1 : rI p1) {Q : Int → sk_S → Prop} {I : sk_S} (hM : M_Foreign_isClashAt p1 Q I) : Met l yX1_isClashAt wsX1_isClashAt rmX1_isClashAt (va_Pc [.ref (sk_ad G 149), .int (iI p1), .ref (sk_ad G 36)] (sk_U G 198 sk_t I)) (sk_Qz G 198 sk_t Q) 0 0 (sk_A G) := by
  refine Met.ofW (cc := cX1_isClashAt) (maxL := 6) (ret := (some .boolean)) (by decide) rfl ?_
  intro p e s m args below meth c s₁ B hml hv
  obtain ⟨rfl, hU, hK⟩ := hv
  have hx := B.exec
  have hb := B.bytes
  have hr0 := B.returns
  have hts := atoms_spec (ws := wsX1_isClashAt) B.pre
  have hown : s.vm.findClass RX1 = some m.cls := findClass_of_methodNamed B.named
  have hlocks := B.notSynchronized
  have S : CallFix p m c cX1_isClashAt 6 s ([.ref (sk_ad G 149), .int (iI p1), .ref (sk_ad G 36)].toArray) wsX1_isClashAt RX1 := ⟨hx, hb, hml, hown, hts⟩
  have hL0 := hts (.fieldLink RX1 26 "SkyLights$Foreign" "cursors" "LSkyLights$Row;") (by decide +kernel)
  have hL1 := hts (.fieldLink RX1 33 "SkyLights$Foreign" "one" "I") (by decide +kernel)
  have hL2 := hts (.fieldLink RX1 36 "SkyLights$Foreign" "other" "I") (by decide +kernel)
  have hI1 : ∀ w ∈ u_ws RX1 TX1 7, w ∈ wsX1_isClashAt := by decide +kernel
  have hw : sk_W G 198 sk_t I s s.heap [] := ⟨hU, va_S.rf⟩
  have hl := lv_entry ([.ref (sk_ad G 149), .int (iI p1), .ref (sk_ad G 36)]) (n := 6) (Nat.le_of_ble_eq_true rfl)
  rw [lg_entry_eq]
  generalize (lg_sl ([.ref (sk_ad G 149), .int (iI p1), .ref (sk_ad G 36)]) ++ List.replicate (6 - (lg_sl ([.ref (sk_ad G 149), .int (iI p1), .ref (sk_ad G 36)])).length) Slot.unset).toArray = ls at hl ⊢
  have hl : lv_has ls 6 [(0, .ref (sk_ad G 149)), (1, .int (iI p1)), (2, .ref (sk_ad G 36))] := hl
  suffices hgo : ∀ (H : Heap) (locs : List Loc), sk_W G 198 sk_t I s H locs → W p l e (headSpec wsX1_isClashAt rmX1_isClashAt).room s m ([.ref (sk_ad G 149), .int (iI p1), .ref (sk_ad G 36)].toArray) below meth c H locs 0 0 (MQ below (sk_Qz G 198 sk_t Q) ([.ref (sk_ad G 149), .int (iI p1), .ref (sk_ad G 36)].toArray) s 0 0 (sk_A G)) (F0 m 0 ls []) from hgo _ _ hw
  have hJ_61 : ∀ (v3 v5 : Int) (I : sk_S), rI v3 → rI v5 → J_Foreign_isClashAt_61 v3 v5 Q I → ∀ (H : Heap) (locs : List Loc) (ls : Array Slot), sk_W G 198 sk_t I s H locs → lv_has ls 6 [(0, .ref (sk_ad G 149)), (3, .int (iI v3)), (5, .int (iI v5))] → W p l e (headSpec wsX1_isClashAt rmX1_isClashAt).room s m ([.ref (sk_ad G 149), .int (iI p1), .ref (sk_ad G 36)].toArray) below meth c H locs 0 0 (MQ below (sk_Qz G 198 sk_t Q) ([.ref (sk_ad G 149), .int (iI p1), .ref (sk_ad G 36)].toArray) s 0 0 (sk_A G)) (F0 m 61 ls []) := by
    intro v3 v5 I hr_v3 hr_v5 hM H locs ls hw hl
    unfold J_Foreign_isClashAt_61 at hM
    refine lv_aload_n hx hb (okX1_isClashAt (61, .aload_n 0, 1) (List.mem_of_getElem? (i := 33) rfl)) rfl (lv_at hl 0 rfl) ?_
    refine lv_iload_n hx hb (okX1_isClashAt (62, .iload_n 3, 1) (List.mem_of_getElem? (i := 34) rfl)) rfl (lv_at hl 1 rfl) ?_
    refine sk_put S hK hw kdn_149 (kd_in kdn_149) (C := RX1) (T := TX1) (N := 7) rfl hI1 tyX1 tyX1_ok nmX1 5 ⟨by decide, rfl, by decide, rfl⟩ rfl rfl (k' := 5) rfl hr_v3 ⟨rfl, rfl⟩ hL1 (okX1_isClashAt (63, .putfield 33, 3) (List.mem_of_getElem? (i := 35) rfl)) (fun H locs hw => ?_)
    refine lv_aload_n hx hb (okX1_isClashAt (66, .aload_n 0, 1) (List.mem_of_getElem? (i := 36) rfl)) rfl (lv_at hl 0 rfl) ?_
    refine lv_iload hx hb (okX1_isClashAt (67, .iload 5, 2) (List.mem_of_getElem? (i := 37) rfl)) (lv_at hl 2 rfl) ?_
    refine sk_put S hK hw kdn_149 (kd_in kdn_149) (C := RX1) (T := TX1) (N := 7) rfl hI1 tyX1 tyX1_ok nmX1 6 ⟨by decide, rfl, by decide, rfl⟩ rfl rfl (k' := 6) rfl hr_v5 ⟨rfl, rfl⟩ hL2 (okX1_isClashAt (69, .putfield 36, 3) (List.mem_of_getElem? (i := 38) rfl)) (fun H locs hw => ?_)
    refine lv_iconst (v := iI 1) hx hb (okX1_isClashAt (72, .iconst 1, 1) (List.mem_of_getElem? (i := 39) rfl)) rfl ?_
    exact sk_zret hx hb hr0 hlocks hK hw (Or.inr rfl) hM (okX1_isClashAt (73, .ireturn, 1) (List.mem_of_getElem? (i := 40) rfl))
  have hJ_2 : ∀ (v1 v3 : Int) (I : sk_S), rI v1 → rI v3 → L_Foreign_isClashAt_2 v1 Q v3 I → ∀ (H : Heap) (locs : List Loc) (ls : Array Slot), sk_W G 198 sk_t I s H locs → lv_has ls 6 [(0, .ref (sk_ad G 149)), (1, .int (iI v1)), (2, .ref (sk_ad G 36)), (3, .int (iI v3))] → W p l e (headSpec wsX1_isClashAt rmX1_isClashAt).room s m ([.ref (sk_ad G 149), .int (iI p1), .ref (sk_ad G 36)].toArray) below meth c H locs 0 0 (MQ below (sk_Qz G 198 sk_t Q) ([.ref (sk_ad G 149), .int (iI p1), .ref (sk_ad G 36)].toArray) s 0 0 (sk_A G)) (F0 m 2 ls []) := by
    intro v1 v3 I hr_v1 hr_v3 hM H locs ls hw hl
    unfold L_Foreign_isClashAt_2 at hM
    obtain ⟨X_2, hX_2⟩ : ∃ X : Int → sk_S → Prop, ∀ (v3 : Int) (I : sk_S), X v3 I ↔ (rI v3 → ∀ (H : Heap) (locs : List Loc) (ls : Array Slot), sk_W G 198 sk_t I s H locs → lv_has ls 6 [(0, .ref (sk_ad G 149)), (1, .int (iI v1)), (2, .ref (sk_ad G 36)), (3, .int (iI v3))] → W p l e (headSpec wsX1_isClashAt rmX1_isClashAt).room s m ([.ref (sk_ad G 149), .int (iI p1), .ref (sk_ad G 36)].toArray) below meth c H locs 0 0 (MQ below (sk_Qz G 198 sk_t Q) ([.ref (sk_ad G 149), .int (iI p1), .ref (sk_ad G 36)].toArray) s 0 0 (sk_A G)) (F0 m 2 ls [])) := ⟨_, fun _ _ => Iff.rfl⟩
    have hJ_74 : ∀ (v3 : Int) (I : sk_S), rI v3 → J_Foreign_isClashAt_74 v1 v3 Q X_2 I → ∀ (H : Heap) (locs : List Loc) (ls : Array Slot), sk_W G 198 sk_t I s H locs → lv_has ls 6 [(0, .ref (sk_ad G 149)), (1, .int (iI v1)), (2, .ref (sk_ad G 36)), (3, .int (iI v3))] → W p l e (headSpec wsX1_isClashAt rmX1_isClashAt).room s m ([.ref (sk_ad G 149), .int (iI p1), .ref (sk_ad G 36)].toArray) below meth c H locs 0 0 (MQ below (sk_Qz G 198 sk_t Q) ([.ref (sk_ad G 149), .int (iI p1), .ref (sk_ad G 36)].toArray) s 0 0 (sk_A G)) (F0 m 74 ls []) := by
      intro v3 I hr_v3 hM H locs ls hw hl
      unfold J_Foreign_isClashAt_74 at hM
      obtain ⟨hr1, hM⟩ := hM
      obtain ⟨v3_74, ev3_74⟩ : ∃ y : Int, y = v3 + 1 := ⟨_, rfl⟩
      have hM := hM v3_74 ev3_74
      have hr_v3_74 : rI v3_74 := by rw [ev3_74]; exact hr1
      refine lv_iinc (v := iI v3_74) (lv' := [(3, .int (iI v3_74)), (0, .ref (sk_ad G 149)), (1, .int (iI v1)), (2, .ref (sk_ad G 36))]) hx hb (okX1_isClashAt (74, .iinc 3 1, 3) (List.mem_of_getElem? (i := 41) rfl)) hl (k := 3) rfl (by rw [ev3_74]; exact iI_add _ _) (by decide) rfl (fun ls hl => ?_)
      refine lv_goto (tgt := 2) hx hb (okX1_isClashAt (77, .goto (-75), 3) (List.mem_of_getElem? (i := 42) rfl)) (by decide) ?_
      exact (hX_2 v3_74 I).1 hM hr_v3_74 H locs ls hw (lv_sub hl [1, 2, 3, 0] rfl)
    have hJ_48 : ∀ (v3 v4 s0 : Int) (I : sk_S), rI v3 → rI v4 → rI s0 → J_Foreign_isClashAt_48 v1 v3 v4 s0 Q X_2 I → ∀ (H : Heap) (locs : List Loc) (ls : Array Slot), sk_W G 198 sk_t I s H locs → lv_has ls 6 [(0, .ref (sk_ad G 149)), (1, .int (iI v1)), (2, .ref (sk_ad G 36)), (3, .int (iI v3)), (4, .int (iI v4))] → W p l e (headSpec wsX1_isClashAt rmX1_isClashAt).room s m ([.ref (sk_ad G 149), .int (iI p1), .ref (sk_ad G 36)].toArray) below meth c H locs 0 0 (MQ below (sk_Qz G 198 sk_t Q) ([.ref (sk_ad G 149), .int (iI p1), .ref (sk_ad G 36)].toArray) s 0 0 (sk_A G)) (F0 m 48 ls [.int (iI s0)]) := by
      intro v3 v4 s0 I hr_v3 hr_v4 hr_s0 hM H locs ls hw hl
      unfold J_Foreign_isClashAt_48 at hM
      refine lv_istore (lv' := [(5, .int (iI s0)), (0, .ref (sk_ad G 149)), (1, .int (iI v1)), (2, .ref (sk_ad G 36)), (3, .int (iI v3)), (4, .int (iI v4))]) hx hb (okX1_isClashAt (48, .istore 5, 2) (List.mem_of_getElem? (i := 27) rfl)) hl (by decide) rfl (fun ls hl => ?_)
      refine lv_iload hx hb (okX1_isClashAt (50, .iload 4, 2) (List.mem_of_getElem? (i := 28) rfl)) (lv_at hl 5 rfl) ?_
      refine sk_if_ne (tgt := 61) hx hb hr_v4 (okX1_isClashAt (52, .ifCond .ne 9, 3) (List.mem_of_getElem? (i := 29) rfl)) (by decide) (fun c52 => ?_) (fun c52 => ?_)
      · have hM := hM.1 c52
        exact hJ_61 v3 s0 I hr_v3 hr_s0 hM H locs ls hw (lv_sub hl [1, 4, 0] rfl)
      · have hM := hM.2 c52
        refine lv_iload hx hb (okX1_isClashAt (55, .iload 5, 2) (List.mem_of_getElem? (i := 30) rfl)) (lv_at hl 0 rfl) ?_
        refine lv_iconst (v := iI (-1)) hx hb (okX1_isClashAt (57, .iconst (-1), 1) (List.mem_of_getElem? (i := 31) rfl)) rfl ?_
        refine sk_icmp_eq (tgt := 74) hx hb hr_s0 (by decide) (okX1_isClashAt (58, .if_icmp .eq 16, 3) (List.mem_of_getElem? (i := 32) rfl)) (by decide) (fun c58 => ?_) (fun c58 => ?_)
        · have hM := hM.1 c58
          exact hJ_74 v3 I hr_v3 hM H locs ls hw (lv_sub hl [1, 2, 3, 4] rfl)
        · have hM := hM.2 c58
          exact hJ_61 v3 s0 I hr_v3 hr_s0 hM H locs ls hw (lv_sub hl [1, 4, 0] rfl)
    refine (hX_2 v3 I).1 (hM X_2 (fun v3 I hM => (hX_2 v3 I).2 (fun hr_v3 H locs ls hw hl => ?_))) hr_v3 H locs ls hw hl
    refine lv_iload_n hx hb (okX1_isClashAt (2, .iload_n 3, 1) (List.mem_of_getElem? (i := 2) rfl)) rfl (lv_at hl 3 rfl) ?_
    refine lv_bipush (v := iI 10) hx hb (okX1_isClashAt (3, .bipush 10, 2) (List.mem_of_getElem? (i := 3) rfl)) (by decide +kernel) ?_
    refine sk_icmp_ge (tgt := 80) hx hb hr_v3 (by decide) (okX1_isClashAt (5, .if_icmp .ge 75, 3) (List.mem_of_getElem? (i := 4) rfl)) (by decide) (fun c5 => ?_) (fun c5 => ?_)
    · have hM := hM.1 c5
      refine lv_iconst (v := iI 0) hx hb (okX1_isClashAt (80, .iconst 0, 1) (List.mem_of_getElem? (i := 43) rfl)) rfl ?_
      exact sk_zret hx hb hr0 hlocks hK hw (Or.inl rfl) hM (okX1_isClashAt (81, .ireturn, 1) (List.mem_of_getElem? (i := 44) rfl))
    · have hM := hM.2 c5
      refine lv_aload_n hx hb (okX1_isClashAt (8, .aload_n 0, 1) (List.mem_of_getElem? (i := 5) rfl)) rfl (lv_at hl 0 rfl) ?_
      refine lv_iload_n hx hb (okX1_isClashAt (9, .iload_n 3, 1) (List.mem_of_getElem? (i := 6) rfl)) rfl (lv_at hl 3 rfl) ?_
      refine lv_iload_n hx hb (okX1_isClashAt (10, .iload_n 1, 1) (List.mem_of_getElem? (i := 7) rfl)) rfl (lv_at hl 1 rfl) ?_
      refine sk_ci (sk_runV (a := 149) (C := RX1) (As := [.int (iI v3), .int (iI v1)]) (rest := []) S (c_Foreign_isThere l G hr_v3 hr_v1 hM) sk_blind gX1_isClashAt_X1_isThere rfl hdX1_isThere ⟨⟨rfl, rfl⟩, Nat.le_of_ble_eq_true rfl, Nat.le_of_ble_eq_true rfl⟩ (sk_recv hK hw kdn_149 (kd_in kdn_149) (by decide) rfl) (sk_pre hK hw) rfl hl.1 rfl (Nat.le_of_ble_eq_true rfl) (okX1_isClashAt (11, .invokevirtual 70, 3) (List.mem_of_getElem? (i := 8) rfl)) ⟨Nat.zero_le _, Nat.zero_le _⟩) hw (fun r_11 I_11 H locs hr_r_11 hM hw => ?_)
      obtain ⟨hb_r_11, hM⟩ := hM
      refine sk_if_eq (tgt := 74) hx hb hr_r_11 (okX1_isClashAt (14, .ifCond .eq 60, 3) (List.mem_of_getElem? (i := 9) rfl)) (by decide) (fun c14 => ?_) (fun c14 => ?_)
      · have hM := hM.1 c14
        exact hJ_74 v3 I_11 hr_v3 hM H locs ls hw (lv_sub hl [0, 1, 2, 3] rfl)
      · have hM := hM.2 c14
        refine lv_aload_n hx hb (okX1_isClashAt (17, .aload_n 0, 1) (List.mem_of_getElem? (i := 10) rfl)) rfl (lv_at hl 0 rfl) ?_
        refine lv_aload_n hx hb (okX1_isClashAt (18, .aload_n 0, 1) (List.mem_of_getElem? (i := 11) rfl)) rfl (lv_at hl 0 rfl) ?_
        refine sk_getr (b := 156) S hK hw kdn_149 (kd_in kdn_149) (C := RX1) (T := TX1) (N := 7) rfl hI1 3 ⟨by decide, rfl, by decide, rfl⟩ rfl (k' := 3) rfl rfl (by decide +kernel) hL0 (okX1_isClashAt (19, .getfield 26, 3) (List.mem_of_getElem? (i := 12) rfl)) ?_
        refine lv_iload_n hx hb (okX1_isClashAt (22, .iload_n 3, 1) (List.mem_of_getElem? (i := 13) rfl)) rfl (lv_at hl 3 rfl) ?_
        refine sk_ci (sk_runV (a := 156) (C := RX7) (As := [.int (iI v3)]) (rest := [.ref (sk_ad G 149)]) S (c_Row_at l G kdn_156 hr_v3 hM) sk_blind gX1_isClashAt_X7_at rfl hdX7_at ⟨⟨rfl, rfl⟩, Nat.le_of_ble_eq_true rfl, Nat.le_of_ble_eq_true rfl⟩ (sk_recv hK hw kdn_156 (kd_in kdn_156) (by decide) rfl) (sk_pre hK hw) rfl hl.1 rfl (Nat.le_of_ble_eq_true rfl) (okX1_isClashAt (23, .invokevirtual 42, 3) (List.mem_of_getElem? (i := 14) rfl)) ⟨Nat.zero_le _, Nat.zero_le _⟩) hw (fun r_23 I_23 H locs hr_r_23 hM hw => ?_)
        refine lv_aload_n hx hb (okX1_isClashAt (26, .aload_n 2, 1) (List.mem_of_getElem? (i := 15) rfl)) rfl (lv_at hl 2 rfl) ?_
        refine sk_ci (sk_runV (a := 149) (C := RX1) (As := [.int (iI r_23), .ref (sk_ad G 36)]) (rest := []) S (c_Foreign_isInZone l G hr_r_23 hM) sk_blind gX1_isClashAt_X1_isInZone rfl hdX1_isInZone ⟨⟨rfl, rfl⟩, Nat.le_of_ble_eq_true rfl, Nat.le_of_ble_eq_true rfl⟩ (sk_recv hK hw kdn_149 (kd_in kdn_149) (by decide) rfl) (sk_pre hK hw) rfl hl.1 rfl (Nat.le_of_ble_eq_true rfl) (okX1_isClashAt (27, .invokevirtual 74, 3) (List.mem_of_getElem? (i := 16) rfl)) ⟨Nat.zero_le _, Nat.zero_le _⟩) hw (fun r_27 I_27 H locs hr_r_27 hM hw => ?_)
        obtain ⟨hb_r_27, hM⟩ := hM
        refine lv_istore (lv' := [(4, .int (iI r_27)), (0, .ref (sk_ad G 149)), (1, .int (iI v1)), (2, .ref (sk_ad G 36)), (3, .int (iI v3))]) hx hb (okX1_isClashAt (30, .istore 4, 2) (List.mem_of_getElem? (i := 17) rfl)) hl (by decide) rfl (fun ls hl => ?_)
        refine lv_iload hx hb (okX1_isClashAt (32, .iload 4, 2) (List.mem_of_getElem? (i := 18) rfl)) (lv_at hl 0 rfl) ?_
        refine sk_if_eq (tgt := 41) hx hb hr_r_27 (okX1_isClashAt (34, .ifCond .eq 7, 3) (List.mem_of_getElem? (i := 19) rfl)) (by decide) (fun c34 => ?_) (fun c34 => ?_)
        · have hM := hM.1 c34
          refine lv_aload_n hx hb (okX1_isClashAt (41, .aload_n 0, 1) (List.mem_of_getElem? (i := 22) rfl)) rfl (lv_at hl 1 rfl) ?_
          refine lv_iload_n hx hb (okX1_isClashAt (42, .iload_n 3, 1) (List.mem_of_getElem? (i := 23) rfl)) rfl (lv_at hl 4 rfl) ?_
          refine lv_iload_n hx hb (okX1_isClashAt (43, .iload_n 1, 1) (List.mem_of_getElem? (i := 24) rfl)) rfl (lv_at hl 2 rfl) ?_
          refine lv_aload_n hx hb (okX1_isClashAt (44, .aload_n 2, 1) (List.mem_of_getElem? (i := 25) rfl)) rfl (lv_at hl 3 rfl) ?_
          refine sk_ci (sk_runV (a := 149) (C := RX1) (As := [.int (iI v3), .int (iI v1), .ref (sk_ad G 36)]) (rest := []) S (c_Foreign_partner l G hr_v3 hr_v1 hM) sk_blind gX1_isClashAt_X1_partner rfl hdX1_partner ⟨⟨rfl, rfl⟩, Nat.le_of_ble_eq_true rfl, Nat.le_of_ble_eq_true rfl⟩ (sk_recv hK hw kdn_149 (kd_in kdn_149) (by decide) rfl) (sk_pre hK hw) rfl hl.1 rfl (Nat.le_of_ble_eq_true rfl) (okX1_isClashAt (45, .invokevirtual 77, 3) (List.mem_of_getElem? (i := 26) rfl)) ⟨Nat.zero_le _, Nat.zero_le _⟩) hw (fun r_45 I_45 H locs hr_r_45 hM hw => ?_)
          exact hJ_48 v3 r_27 r_45 I_45 hr_v3 hr_r_27 hr_r_45 hM H locs ls hw (lv_sub hl [1, 2, 3, 4, 0] rfl)
        · have hM := hM.2 c34
          refine lv_iconst (v := iI (-1)) hx hb (okX1_isClashAt (37, .iconst (-1), 1) (List.mem_of_getElem? (i := 20) rfl)) rfl ?_
          refine lv_goto (tgt := 48) hx hb (okX1_isClashAt (38, .goto 10, 3) (List.mem_of_getElem? (i := 21) rfl)) (by decide) ?_
          exact hJ_48 v3 r_27 ((-1)) I_27 hr_v3 hr_r_27 (by decide) hM H locs ls hw (lv_sub hl [1, 2, 3, 4, 0] rfl)
  unfold M_Foreign_isClashAt at hM
  intro H locs hw
  refine lv_iconst (v := iI 0) hx hb (okX1_isClashAt (0, .iconst 0, 1) (List.mem_of_getElem? (i := 0) rfl)) rfl ?_
  refine lv_istore_n (lv' := [(3, .int (iI 0)), (0, .ref (sk_ad G 149)), (1, .int (iI p1)), (2, .ref (sk_ad G 36))]) hx hb (okX1_isClashAt (1, .istore_n 3, 1) (List.mem_of_getElem? (i := 1) rfl)) rfl hl (by decide) rfl (fun ls hl => ?_)
  exact hJ_2 p1 0 I hr_p1 (by decide) hM H locs ls hw (lv_sub hl [1, 2, 3, 0] rfl)
def rmX1_leastTick : Room := { frames := 2, cells := 0, slots := 0, locals := 107 }
set_option maxHeartbeats 4000000 in
set_option maxRecDepth 100000 in
theorem c_Foreign_leastTick (l : Launch) (G : sk_G) {Q : Int → sk_S → Prop} {I : sk_S} (hM : M_Foreign_leastTick Q I) : Met l yX1_leastTick wsX1_leastTick rmX1_leastTick (va_Pc [.ref (sk_ad G 149)] (sk_U G 198 sk_t I)) (sk_Qi G 198 sk_t Q) 0 0 (sk_A G) := by
  refine Met.ofW (cc := cX1_leastTick) (maxL := 4) (ret := (some .int)) (by decide) rfl ?_
  intro p e s m args below meth c s₁ B hml hv
  obtain ⟨rfl, hU, hK⟩ := hv
  have hx := B.exec
  have hb := B.bytes
  have hr0 := B.returns
  have hts := atoms_spec (ws := wsX1_leastTick) B.pre
  have hown : s.vm.findClass RX1 = some m.cls := findClass_of_methodNamed B.named
  have hlocks := B.notSynchronized
  have S : CallFix p m c cX1_leastTick 4 s ([.ref (sk_ad G 149)].toArray) wsX1_leastTick RX1 := ⟨hx, hb, hml, hown, hts⟩
  have hL0 := hts (.fieldLink RX1 26 "SkyLights$Foreign" "cursors" "LSkyLights$Row;") (by decide +kernel)
  have hL1 := hts (.methodLink RX1 65 Lib.Math.min.name) (by decide +kernel)
  have hL2 := hts (.static Lib.Math.min.name) (by decide +kernel)
  have hL3 := hts (.initialized "java/lang/Math") (by decide +kernel)
  have hL4 := hts (.code Lib.Math.min.name Lib.Math.min.code 2 (some .int)) (by decide +kernel)
  have hI1 : ∀ w ∈ u_ws RX1 TX1 7, w ∈ wsX1_leastTick := by decide +kernel
  have hw : sk_W G 198 sk_t I s s.heap [] := ⟨hU, va_S.rf⟩
  have hl := lv_entry ([.ref (sk_ad G 149)]) (n := 4) (Nat.le_of_ble_eq_true rfl)
  rw [lg_entry_eq]
  generalize (lg_sl ([.ref (sk_ad G 149)]) ++ List.replicate (4 - (lg_sl ([.ref (sk_ad G 149)])).length) Slot.unset).toArray = ls at hl ⊢
  have hl : lv_has ls 4 [(0, .ref (sk_ad G 149))] := hl
  suffices hgo : ∀ (H : Heap) (locs : List Loc), sk_W G 198 sk_t I s H locs → W p l e (headSpec wsX1_leastTick rmX1_leastTick).room s m ([.ref (sk_ad G 149)].toArray) below meth c H locs 0 0 (MQ below (sk_Qi G 198 sk_t Q) ([.ref (sk_ad G 149)].toArray) s 0 0 (sk_A G)) (F0 m 0 ls []) from hgo _ _ hw
  have hJ_6 : ∀ (v1 v2 : Int) (I : sk_S), rI v1 → rI v2 → L_Foreign_leastTick_6 Q v1 v2 I → ∀ (H : Heap) (locs : List Loc) (ls : Array Slot), sk_W G 198 sk_t I s H locs → lv_has ls 4 [(0, .ref (sk_ad G 149)), (1, .int (iI v1)), (2, .int (iI v2))] → W p l e (headSpec wsX1_leastTick rmX1_leastTick).room s m ([.ref (sk_ad G 149)].toArray) below meth c H locs 0 0 (MQ below (sk_Qi G 198 sk_t Q) ([.ref (sk_ad G 149)].toArray) s 0 0 (sk_A G)) (F0 m 6 ls []) := by
    intro v1 v2 I hr_v1 hr_v2 hM H locs ls hw hl
    unfold L_Foreign_leastTick_6 at hM
    obtain ⟨X_6, hX_6⟩ : ∃ X : Int → Int → sk_S → Prop, ∀ (v1 v2 : Int) (I : sk_S), X v1 v2 I ↔ (rI v1 → rI v2 → ∀ (H : Heap) (locs : List Loc) (ls : Array Slot), sk_W G 198 sk_t I s H locs → lv_has ls 4 [(0, .ref (sk_ad G 149)), (1, .int (iI v1)), (2, .int (iI v2))] → W p l e (headSpec wsX1_leastTick rmX1_leastTick).room s m ([.ref (sk_ad G 149)].toArray) below meth c H locs 0 0 (MQ below (sk_Qi G 198 sk_t Q) ([.ref (sk_ad G 149)].toArray) s 0 0 (sk_A G)) (F0 m 6 ls [])) := ⟨_, fun _ _ _ => Iff.rfl⟩
    have hJ_37 : ∀ (v1 v2 : Int) (I : sk_S), rI v1 → rI v2 → J_Foreign_leastTick_37 v1 v2 Q X_6 I → ∀ (H : Heap) (locs : List Loc) (ls : Array Slot), sk_W G 198 sk_t I s H locs → lv_has ls 4 [(0, .ref (sk_ad G 149)), (1, .int (iI v1)), (2, .int (iI v2))] → W p l e (headSpec wsX1_leastTick rmX1_leastTick).room s m ([.ref (sk_ad G 149)].toArray) below meth c H locs 0 0 (MQ below (sk_Qi G 198 sk_t Q) ([.ref (sk_ad G 149)].toArray) s 0 0 (sk_A G)) (F0 m 37 ls []) := by
      intro v1 v2 I hr_v1 hr_v2 hM H locs ls hw hl
      unfold J_Foreign_leastTick_37 at hM
      obtain ⟨hr1, hM⟩ := hM
      obtain ⟨v2_37, ev2_37⟩ : ∃ y : Int, y = v2 + 1 := ⟨_, rfl⟩
      have hM := hM v2_37 ev2_37
      have hr_v2_37 : rI v2_37 := by rw [ev2_37]; exact hr1
      refine lv_iinc (v := iI v2_37) (lv' := [(2, .int (iI v2_37)), (0, .ref (sk_ad G 149)), (1, .int (iI v1))]) hx hb (okX1_leastTick (37, .iinc 2 1, 3) (List.mem_of_getElem? (i := 22) rfl)) hl (k := 2) rfl (by rw [ev2_37]; exact iI_add _ _) (by decide) rfl (fun ls hl => ?_)
      refine lv_goto (tgt := 6) hx hb (okX1_leastTick (40, .goto (-34), 3) (List.mem_of_getElem? (i := 23) rfl)) (by decide) ?_
      exact (hX_6 v1 v2_37 I).1 hM hr_v1 hr_v2_37 H locs ls hw (lv_sub hl [1, 2, 0] rfl)
    refine (hX_6 v1 v2 I).1 (hM X_6 (fun v1 v2 I hM => (hX_6 v1 v2 I).2 (fun hr_v1 hr_v2 H locs ls hw hl => ?_))) hr_v1 hr_v2 H locs ls hw hl
    refine lv_iload_n hx hb (okX1_leastTick (6, .iload_n 2, 1) (List.mem_of_getElem? (i := 4) rfl)) rfl (lv_at hl 2 rfl) ?_
    refine lv_bipush (v := iI 10) hx hb (okX1_leastTick (7, .bipush 10, 2) (List.mem_of_getElem? (i := 5) rfl)) (by decide +kernel) ?_
    refine sk_icmp_ge (tgt := 43) hx hb hr_v2 (by decide) (okX1_leastTick (9, .if_icmp .ge 34, 3) (List.mem_of_getElem? (i := 6) rfl)) (by decide) (fun c9 => ?_) (fun c9 => ?_)
    · have hM := hM.1 c9
      refine lv_iload_n hx hb (okX1_leastTick (43, .iload_n 1, 1) (List.mem_of_getElem? (i := 24) rfl)) rfl (lv_at hl 1 rfl) ?_
      exact sk_iret hx hb hr0 hlocks hK hw hr_v1 hM (okX1_leastTick (44, .ireturn, 1) (List.mem_of_getElem? (i := 25) rfl))
    · have hM := hM.2 c9
      refine lv_aload_n hx hb (okX1_leastTick (12, .aload_n 0, 1) (List.mem_of_getElem? (i := 7) rfl)) rfl (lv_at hl 0 rfl) ?_
      refine sk_getr (b := 156) S hK hw kdn_149 (kd_in kdn_149) (C := RX1) (T := TX1) (N := 7) rfl hI1 3 ⟨by decide, rfl, by decide, rfl⟩ rfl (k' := 3) rfl rfl (by decide +kernel) hL0 (okX1_leastTick (13, .getfield 26, 3) (List.mem_of_getElem? (i := 8) rfl)) ?_
      refine lv_iload_n hx hb (okX1_leastTick (16, .iload_n 2, 1) (List.mem_of_getElem? (i := 9) rfl)) rfl (lv_at hl 2 rfl) ?_
      refine sk_ci (sk_runV (a := 156) (C := RX7) (As := [.int (iI v2)]) (rest := []) S (c_Row_at l G kdn_156 hr_v2 hM) sk_blind gX1_leastTick_X7_at rfl hdX7_at ⟨⟨rfl, rfl⟩, Nat.le_of_ble_eq_true rfl, Nat.le_of_ble_eq_true rfl⟩ (sk_recv hK hw kdn_156 (kd_in kdn_156) (by decide) rfl) (sk_pre hK hw) rfl hl.1 rfl (Nat.le_of_ble_eq_true rfl) (okX1_leastTick (17, .invokevirtual 42, 3) (List.mem_of_getElem? (i := 10) rfl)) ⟨Nat.zero_le _, Nat.zero_le _⟩) hw (fun r_17 I_17 H locs hr_r_17 hM hw => ?_)
      refine lv_istore_n (lv' := [(3, .int (iI r_17)), (0, .ref (sk_ad G 149)), (1, .int (iI v1)), (2, .int (iI v2))]) hx hb (okX1_leastTick (20, .istore_n 3, 1) (List.mem_of_getElem? (i := 11) rfl)) rfl hl (by decide) rfl (fun ls hl => ?_)
      refine lv_iload_n hx hb (okX1_leastTick (21, .iload_n 3, 1) (List.mem_of_getElem? (i := 12) rfl)) rfl (lv_at hl 0 rfl) ?_
      refine lv_iconst (v := iI (-1)) hx hb (okX1_leastTick (22, .iconst (-1), 1) (List.mem_of_getElem? (i := 13) rfl)) rfl ?_
      refine sk_icmp_eq (tgt := 37) hx hb hr_r_17 (by decide) (okX1_leastTick (23, .if_icmp .eq 14, 3) (List.mem_of_getElem? (i := 14) rfl)) (by decide) (fun c23 => ?_) (fun c23 => ?_)
      · have hM := hM.1 c23
        exact hJ_37 v1 v2 I_17 hr_v1 hr_v2 hM H locs ls hw (lv_sub hl [1, 2, 3] rfl)
      · have hM := hM.2 c23
        refine lv_iload_n hx hb (okX1_leastTick (26, .iload_n 1, 1) (List.mem_of_getElem? (i := 15) rfl)) rfl (lv_at hl 2 rfl) ?_
        refine lv_aload_n hx hb (okX1_leastTick (27, .aload_n 0, 1) (List.mem_of_getElem? (i := 16) rfl)) rfl (lv_at hl 1 rfl) ?_
        refine lv_iload_n hx hb (okX1_leastTick (28, .iload_n 3, 1) (List.mem_of_getElem? (i := 17) rfl)) rfl (lv_at hl 0 rfl) ?_
        refine lv_iconst (v := iI 3) hx hb (okX1_leastTick (29, .iconst 3, 1) (List.mem_of_getElem? (i := 18) rfl)) rfl ?_
        refine sk_ci (sk_runV (a := 149) (C := RX1) (As := [.int (iI r_17), .int (iI 3)]) (rest := [.int (iI v1)]) S (c_Foreign_told l G hr_r_17 (by decide) hM) sk_blind gX1_leastTick_X1_told rfl hdX1_told ⟨⟨rfl, rfl⟩, Nat.le_of_ble_eq_true rfl, Nat.le_of_ble_eq_true rfl⟩ (sk_recv hK hw kdn_149 (kd_in kdn_149) (by decide) rfl) (sk_pre hK hw) rfl hl.1 rfl (Nat.le_of_ble_eq_true rfl) (okX1_leastTick (30, .invokevirtual 46, 3) (List.mem_of_getElem? (i := 19) rfl)) ⟨Nat.zero_le _, Nat.zero_le _⟩) hw (fun r_30 I_30 H locs hr_r_30 hM hw => ?_)
        refine sk_min hx hb (hml.trans hl.1.symm) hown hL1 hL2 hL3 hL4 ⟨Nat.le_of_ble_eq_true rfl, Nat.le_of_ble_eq_true rfl, Nat.zero_le _, Nat.zero_le _⟩ hr_v1 hr_r_30 (okX1_leastTick (33, .invokestatic 65, 3) (List.mem_of_getElem? (i := 20) rfl)) ?_
        refine sk_nm (fun v1_36 ev1_36 => ?_)
        have hM := hM v1_36 ev1_36
        have hr_v1_36 : rI v1_36 := by rw [ev1_36]; exact (rI_imin hr_v1 hr_r_30)
        refine lv_istore_n (lv' := [(1, .int (iI v1_36)), (3, .int (iI r_17)), (0, .ref (sk_ad G 149)), (2, .int (iI v2))]) hx hb (okX1_leastTick (36, .istore_n 1, 1) (List.mem_of_getElem? (i := 21) rfl)) rfl hl (by decide) rfl (fun ls hl => ?_)
        exact hJ_37 v1_36 v2 I_30 hr_v1_36 hr_v2 hM H locs ls hw (lv_sub hl [2, 0, 3] rfl)
  unfold M_Foreign_leastTick at hM
  intro H locs hw
  refine lv_sipush (v := iI 1000) hx hb (okX1_leastTick (0, .sipush 1000, 3) (List.mem_of_getElem? (i := 0) rfl)) (by decide +kernel) ?_
  refine lv_istore_n (lv' := [(1, .int (iI 1000)), (0, .ref (sk_ad G 149))]) hx hb (okX1_leastTick (3, .istore_n 1, 1) (List.mem_of_getElem? (i := 1) rfl)) rfl hl (by decide) rfl (fun ls hl => ?_)
  refine lv_iconst (v := iI 0) hx hb (okX1_leastTick (4, .iconst 0, 1) (List.mem_of_getElem? (i := 2) rfl)) rfl ?_
  refine lv_istore_n (lv' := [(2, .int (iI 0)), (1, .int (iI 1000)), (0, .ref (sk_ad G 149))]) hx hb (okX1_leastTick (5, .istore_n 2, 1) (List.mem_of_getElem? (i := 3) rfl)) rfl hl (by decide) rfl (fun ls hl => ?_)
  exact hJ_6 1000 0 I (by decide) (by decide) hM H locs ls hw (lv_sub hl [2, 1, 0] rfl)
def rmX1_firstClash : Room := { frames := 5, cells := 0, slots := 0, locals := 279 }
set_option maxHeartbeats 4000000 in
set_option maxRecDepth 100000 in
theorem c_Foreign_firstClash (l : Launch) (G : sk_G) {Q : Int → sk_S → Prop} {I : sk_S} (hM : M_Foreign_firstClash Q I) : Met l yX1_firstClash wsX1_firstClash rmX1_firstClash (va_Pc [.ref (sk_ad G 149), .ref (sk_ad G 36)] (sk_U G 198 sk_t I)) (sk_Qi G 198 sk_t Q) 0 0 (sk_A G) := by
  refine Met.ofW (cc := cX1_firstClash) (maxL := 4) (ret := (some .int)) (by decide) rfl ?_
  intro p e s m args below meth c s₁ B hml hv
  obtain ⟨rfl, hU, hK⟩ := hv
  have hx := B.exec
  have hb := B.bytes
  have hr0 := B.returns
  have hts := atoms_spec (ws := wsX1_firstClash) B.pre
  have hown : s.vm.findClass RX1 = some m.cls := findClass_of_methodNamed B.named
  have hlocks := B.notSynchronized
  have S : CallFix p m c cX1_firstClash 4 s ([.ref (sk_ad G 149), .ref (sk_ad G 36)].toArray) wsX1_firstClash RX1 := ⟨hx, hb, hml, hown, hts⟩
  have hL0 := hts (.fieldLink RX1 26 "SkyLights$Foreign" "cursors" "LSkyLights$Row;") (by decide +kernel)
  have hL1 := hts (.fieldLink RX1 20 "SkyLights$Foreign" "heads" "LSkyLights$Row;") (by decide +kernel)
  have hL2 := hts (.fieldLink RX1 29 "SkyLights$Foreign" "size" "I") (by decide +kernel)
  have hI1 : ∀ w ∈ u_ws RX1 TX1 7, w ∈ wsX1_firstClash := by decide +kernel
  have hw : sk_W G 198 sk_t I s s.heap [] := ⟨hU, va_S.rf⟩
  have hl := lv_entry ([.ref (sk_ad G 149), .ref (sk_ad G 36)]) (n := 4) (Nat.le_of_ble_eq_true rfl)
  rw [lg_entry_eq]
  generalize (lg_sl ([.ref (sk_ad G 149), .ref (sk_ad G 36)]) ++ List.replicate (4 - (lg_sl ([.ref (sk_ad G 149), .ref (sk_ad G 36)])).length) Slot.unset).toArray = ls at hl ⊢
  have hl : lv_has ls 4 [(0, .ref (sk_ad G 149)), (1, .ref (sk_ad G 36))] := hl
  suffices hgo : ∀ (H : Heap) (locs : List Loc), sk_W G 198 sk_t I s H locs → W p l e (headSpec wsX1_firstClash rmX1_firstClash).room s m ([.ref (sk_ad G 149), .ref (sk_ad G 36)].toArray) below meth c H locs 0 0 (MQ below (sk_Qi G 198 sk_t Q) ([.ref (sk_ad G 149), .ref (sk_ad G 36)].toArray) s 0 0 (sk_A G)) (F0 m 0 ls []) from hgo _ _ hw
  have hJ_32 : ∀ (v2 : Int) (I : sk_S), rI v2 → L_Foreign_firstClash_32 Q v2 I → ∀ (H : Heap) (locs : List Loc) (ls : Array Slot), sk_W G 198 sk_t I s H locs → lv_has ls 4 [(0, .ref (sk_ad G 149)), (1, .ref (sk_ad G 36)), (2, .int (iI v2))] → W p l e (headSpec wsX1_firstClash rmX1_firstClash).room s m ([.ref (sk_ad G 149), .ref (sk_ad G 36)].toArray) below meth c H locs 0 0 (MQ below (sk_Qi G 198 sk_t Q) ([.ref (sk_ad G 149), .ref (sk_ad G 36)].toArray) s 0 0 (sk_A G)) (F0 m 32 ls []) := by
    intro v2 I hr_v2 hM H locs ls hw hl
    unfold L_Foreign_firstClash_32 at hM
    obtain ⟨X_32, hX_32⟩ : ∃ X : Int → sk_S → Prop, ∀ (v2 : Int) (I : sk_S), X v2 I ↔ (rI v2 → ∀ (H : Heap) (locs : List Loc) (ls : Array Slot), sk_W G 198 sk_t I s H locs → lv_has ls 4 [(0, .ref (sk_ad G 149)), (1, .ref (sk_ad G 36)), (2, .int (iI v2))] → W p l e (headSpec wsX1_firstClash rmX1_firstClash).room s m ([.ref (sk_ad G 149), .ref (sk_ad G 36)].toArray) below meth c H locs 0 0 (MQ below (sk_Qi G 198 sk_t Q) ([.ref (sk_ad G 149), .ref (sk_ad G 36)].toArray) s 0 0 (sk_A G)) (F0 m 32 ls [])) := ⟨_, fun _ _ => Iff.rfl⟩
    refine (hX_32 v2 I).1 (hM X_32 (fun v2 I hM => (hX_32 v2 I).2 (fun hr_v2 H locs ls hw hl => ?_))) hr_v2 H locs ls hw hl
    refine lv_iload_n hx hb (okX1_firstClash (32, .iload_n 2, 1) (List.mem_of_getElem? (i := 17) rfl)) rfl (lv_at hl 2 rfl) ?_
    refine lv_aload_n hx hb (okX1_firstClash (33, .aload_n 0, 1) (List.mem_of_getElem? (i := 18) rfl)) rfl (lv_at hl 0 rfl) ?_
    have hr2 := hw.1.2.2 149 4
    refine sk_geti S hK hw kdn_149 (kd_in kdn_149) (C := RX1) (T := TX1) (N := 7) rfl hI1 4 ⟨by decide, rfl, by decide, rfl⟩ rfl (k' := 4) rfl hL2 (okX1_firstClash (34, .getfield 29, 3) (List.mem_of_getElem? (i := 19) rfl)) ?_
    refine sk_icmp_ge (tgt := 67) hx hb hr_v2 hr2 (okX1_firstClash (37, .if_icmp .ge 30, 3) (List.mem_of_getElem? (i := 20) rfl)) (by decide) (fun c37 => ?_) (fun c37 => ?_)
    · have hM := hM.1 c37
      refine lv_iconst (v := iI (-1)) hx hb (okX1_firstClash (67, .iconst (-1), 1) (List.mem_of_getElem? (i := 36) rfl)) rfl ?_
      exact sk_iret hx hb hr0 hlocks hK hw (by decide) hM (okX1_firstClash (68, .ireturn, 1) (List.mem_of_getElem? (i := 37) rfl))
    · have hM := hM.2 c37
      refine lv_aload_n hx hb (okX1_firstClash (40, .aload_n 0, 1) (List.mem_of_getElem? (i := 21) rfl)) rfl (lv_at hl 0 rfl) ?_
      refine sk_ci (sk_runV (a := 149) (C := RX1) (As := []) (rest := []) S (c_Foreign_leastTick l G hM) sk_blind gX1_firstClash_X1_leastTick rfl hdX1_leastTick ⟨⟨rfl, rfl⟩, Nat.le_of_ble_eq_true rfl, Nat.le_of_ble_eq_true rfl⟩ (sk_recv hK hw kdn_149 (kd_in kdn_149) (by decide) rfl) (sk_pre hK hw) rfl hl.1 rfl (Nat.le_of_ble_eq_true rfl) (okX1_firstClash (41, .invokevirtual 54, 3) (List.mem_of_getElem? (i := 22) rfl)) ⟨Nat.zero_le _, Nat.zero_le _⟩) hw (fun r_41 I_41 H locs hr_r_41 hM hw => ?_)
      refine lv_istore_n (lv' := [(3, .int (iI r_41)), (0, .ref (sk_ad G 149)), (1, .ref (sk_ad G 36)), (2, .int (iI v2))]) hx hb (okX1_firstClash (44, .istore_n 3, 1) (List.mem_of_getElem? (i := 23) rfl)) rfl hl (by decide) rfl (fun ls hl => ?_)
      refine lv_aload_n hx hb (okX1_firstClash (45, .aload_n 0, 1) (List.mem_of_getElem? (i := 24) rfl)) rfl (lv_at hl 1 rfl) ?_
      refine lv_iload_n hx hb (okX1_firstClash (46, .iload_n 3, 1) (List.mem_of_getElem? (i := 25) rfl)) rfl (lv_at hl 0 rfl) ?_
      refine lv_aload_n hx hb (okX1_firstClash (47, .aload_n 1, 1) (List.mem_of_getElem? (i := 26) rfl)) rfl (lv_at hl 2 rfl) ?_
      refine sk_ci (sk_runV (a := 149) (C := RX1) (As := [.int (iI r_41), .ref (sk_ad G 36)]) (rest := []) S (c_Foreign_isClashAt l G hr_r_41 hM) sk_blind gX1_firstClash_X1_isClashAt rfl hdX1_isClashAt ⟨⟨rfl, rfl⟩, Nat.le_of_ble_eq_true rfl, Nat.le_of_ble_eq_true rfl⟩ (sk_recv hK hw kdn_149 (kd_in kdn_149) (by decide) rfl) (sk_pre hK hw) rfl hl.1 rfl (Nat.le_of_ble_eq_true rfl) (okX1_firstClash (48, .invokevirtual 58, 3) (List.mem_of_getElem? (i := 27) rfl)) ⟨Nat.zero_le _, Nat.zero_le _⟩) hw (fun r_48 I_48 H locs hr_r_48 hM hw => ?_)
      obtain ⟨hb_r_48, hM⟩ := hM
      refine sk_if_eq (tgt := 56) hx hb hr_r_48 (okX1_firstClash (51, .ifCond .eq 5, 3) (List.mem_of_getElem? (i := 28) rfl)) (by decide) (fun c51 => ?_) (fun c51 => ?_)
      · have hM := hM.1 c51
        refine lv_aload_n hx hb (okX1_firstClash (56, .aload_n 0, 1) (List.mem_of_getElem? (i := 31) rfl)) rfl (lv_at hl 1 rfl) ?_
        refine lv_iload_n hx hb (okX1_firstClash (57, .iload_n 3, 1) (List.mem_of_getElem? (i := 32) rfl)) rfl (lv_at hl 0 rfl) ?_
        refine sk_cv (sk_runV (a := 149) (C := RX1) (As := [.int (iI r_41)]) (rest := []) S (c_Foreign_goBehind l G hr_r_41 hM) sk_blind gX1_firstClash_X1_goBehind rfl hdX1_goBehind ⟨⟨rfl, rfl⟩, Nat.le_of_ble_eq_true rfl, Nat.le_of_ble_eq_true rfl⟩ (sk_recv hK hw kdn_149 (kd_in kdn_149) (by decide) rfl) (sk_pre hK hw) rfl hl.1 rfl (Nat.le_of_ble_eq_true rfl) (okX1_firstClash (58, .invokevirtual 62, 3) (List.mem_of_getElem? (i := 33) rfl)) ⟨Nat.zero_le _, Nat.zero_le _⟩) hw (fun I_58 H locs hM hw => ?_)
        obtain ⟨hr3, hM⟩ := hM
        obtain ⟨v2_61, ev2_61⟩ : ∃ y : Int, y = v2 + 1 := ⟨_, rfl⟩
        have hM := hM v2_61 ev2_61
        have hr_v2_61 : rI v2_61 := by rw [ev2_61]; exact hr3
        refine lv_iinc (v := iI v2_61) (lv' := [(2, .int (iI v2_61)), (3, .int (iI r_41)), (0, .ref (sk_ad G 149)), (1, .ref (sk_ad G 36))]) hx hb (okX1_firstClash (61, .iinc 2 1, 3) (List.mem_of_getElem? (i := 34) rfl)) hl (k := 3) rfl (by rw [ev2_61]; exact iI_add _ _) (by decide) rfl (fun ls hl => ?_)
        refine lv_goto (tgt := 32) hx hb (okX1_firstClash (64, .goto (-32), 3) (List.mem_of_getElem? (i := 35) rfl)) (by decide) ?_
        exact (hX_32 v2_61 I_58).1 hM hr_v2_61 H locs ls hw (lv_sub hl [2, 3, 0] rfl)
      · have hM := hM.2 c51
        refine lv_iload_n hx hb (okX1_firstClash (54, .iload_n 3, 1) (List.mem_of_getElem? (i := 29) rfl)) rfl (lv_at hl 0 rfl) ?_
        exact sk_iret hx hb hr0 hlocks hK hw hr_r_41 hM (okX1_firstClash (55, .ireturn, 1) (List.mem_of_getElem? (i := 30) rfl))
  have hJ_30 : ∀ (I : sk_S), J_Foreign_firstClash_30 Q I → ∀ (H : Heap) (locs : List Loc) (ls : Array Slot), sk_W G 198 sk_t I s H locs → lv_has ls 4 [(0, .ref (sk_ad G 149)), (1, .ref (sk_ad G 36))] → W p l e (headSpec wsX1_firstClash rmX1_firstClash).room s m ([.ref (sk_ad G 149), .ref (sk_ad G 36)].toArray) below meth c H locs 0 0 (MQ below (sk_Qi G 198 sk_t Q) ([.ref (sk_ad G 149), .ref (sk_ad G 36)].toArray) s 0 0 (sk_A G)) (F0 m 30 ls []) := by
    intro I hM H locs ls hw hl
    unfold J_Foreign_firstClash_30 at hM
    refine lv_iconst (v := iI 0) hx hb (okX1_firstClash (30, .iconst 0, 1) (List.mem_of_getElem? (i := 15) rfl)) rfl ?_
    refine lv_istore_n (lv' := [(2, .int (iI 0)), (0, .ref (sk_ad G 149)), (1, .ref (sk_ad G 36))]) hx hb (okX1_firstClash (31, .istore_n 2, 1) (List.mem_of_getElem? (i := 16) rfl)) rfl hl (by decide) rfl (fun ls hl => ?_)
    exact hJ_32 0 I (by decide) hM H locs ls hw (lv_sub hl [1, 2, 0] rfl)
  have hJ_2 : ∀ (v2 : Int) (I : sk_S), rI v2 → L_Foreign_firstClash_2 Q v2 I → ∀ (H : Heap) (locs : List Loc) (ls : Array Slot), sk_W G 198 sk_t I s H locs → lv_has ls 4 [(0, .ref (sk_ad G 149)), (1, .ref (sk_ad G 36)), (2, .int (iI v2))] → W p l e (headSpec wsX1_firstClash rmX1_firstClash).room s m ([.ref (sk_ad G 149), .ref (sk_ad G 36)].toArray) below meth c H locs 0 0 (MQ below (sk_Qi G 198 sk_t Q) ([.ref (sk_ad G 149), .ref (sk_ad G 36)].toArray) s 0 0 (sk_A G)) (F0 m 2 ls []) := by
    intro v2 I hr_v2 hM H locs ls hw hl
    unfold L_Foreign_firstClash_2 at hM
    obtain ⟨X_2, hX_2⟩ : ∃ X : Int → sk_S → Prop, ∀ (v2 : Int) (I : sk_S), X v2 I ↔ (rI v2 → ∀ (H : Heap) (locs : List Loc) (ls : Array Slot), sk_W G 198 sk_t I s H locs → lv_has ls 4 [(0, .ref (sk_ad G 149)), (1, .ref (sk_ad G 36)), (2, .int (iI v2))] → W p l e (headSpec wsX1_firstClash rmX1_firstClash).room s m ([.ref (sk_ad G 149), .ref (sk_ad G 36)].toArray) below meth c H locs 0 0 (MQ below (sk_Qi G 198 sk_t Q) ([.ref (sk_ad G 149), .ref (sk_ad G 36)].toArray) s 0 0 (sk_A G)) (F0 m 2 ls [])) := ⟨_, fun _ _ => Iff.rfl⟩
    refine (hX_2 v2 I).1 (hM X_2 (fun v2 I hM => (hX_2 v2 I).2 (fun hr_v2 H locs ls hw hl => ?_))) hr_v2 H locs ls hw hl
    refine lv_iload_n hx hb (okX1_firstClash (2, .iload_n 2, 1) (List.mem_of_getElem? (i := 2) rfl)) rfl (lv_at hl 2 rfl) ?_
    refine lv_bipush (v := iI 10) hx hb (okX1_firstClash (3, .bipush 10, 2) (List.mem_of_getElem? (i := 3) rfl)) (by decide +kernel) ?_
    refine sk_icmp_ge (tgt := 30) hx hb hr_v2 (by decide) (okX1_firstClash (5, .if_icmp .ge 25, 3) (List.mem_of_getElem? (i := 4) rfl)) (by decide) (fun c5 => ?_) (fun c5 => ?_)
    · have hM := hM.1 c5
      exact hJ_30 I hM H locs ls hw (lv_sub hl [0, 1] rfl)
    · have hM := hM.2 c5
      refine lv_aload_n hx hb (okX1_firstClash (8, .aload_n 0, 1) (List.mem_of_getElem? (i := 5) rfl)) rfl (lv_at hl 0 rfl) ?_
      refine sk_getr (b := 156) S hK hw kdn_149 (kd_in kdn_149) (C := RX1) (T := TX1) (N := 7) rfl hI1 3 ⟨by decide, rfl, by decide, rfl⟩ rfl (k' := 3) rfl rfl (by decide +kernel) hL0 (okX1_firstClash (9, .getfield 26, 3) (List.mem_of_getElem? (i := 6) rfl)) ?_
      refine lv_iload_n hx hb (okX1_firstClash (12, .iload_n 2, 1) (List.mem_of_getElem? (i := 7) rfl)) rfl (lv_at hl 2 rfl) ?_
      refine lv_aload_n hx hb (okX1_firstClash (13, .aload_n 0, 1) (List.mem_of_getElem? (i := 8) rfl)) rfl (lv_at hl 0 rfl) ?_
      refine sk_getr (b := 152) S hK hw kdn_149 (kd_in kdn_149) (C := RX1) (T := TX1) (N := 7) rfl hI1 1 ⟨by decide, rfl, by decide, rfl⟩ rfl (k' := 1) rfl rfl (by decide +kernel) hL1 (okX1_firstClash (14, .getfield 20, 3) (List.mem_of_getElem? (i := 9) rfl)) ?_
      refine lv_iload_n hx hb (okX1_firstClash (17, .iload_n 2, 1) (List.mem_of_getElem? (i := 10) rfl)) rfl (lv_at hl 2 rfl) ?_
      refine sk_ci (sk_runV (a := 152) (C := RX7) (As := [.int (iI v2)]) (rest := [.int (iI v2), .ref (sk_ad G 156)]) S (c_Row_at l G kdn_152 hr_v2 hM) sk_blind gX1_firstClash_X7_at rfl hdX7_at ⟨⟨rfl, rfl⟩, Nat.le_of_ble_eq_true rfl, Nat.le_of_ble_eq_true rfl⟩ (sk_recv hK hw kdn_152 (kd_in kdn_152) (by decide) rfl) (sk_pre hK hw) rfl hl.1 rfl (Nat.le_of_ble_eq_true rfl) (okX1_firstClash (18, .invokevirtual 42, 3) (List.mem_of_getElem? (i := 11) rfl)) ⟨Nat.zero_le _, Nat.zero_le _⟩) hw (fun r_18 I_18 H locs hr_r_18 hM hw => ?_)
      refine sk_cv (sk_runV (a := 156) (C := RX7) (As := [.int (iI v2), .int (iI r_18)]) (rest := []) S (c_Row_put l G kdn_156 hr_v2 hr_r_18 hM) sk_blind gX1_firstClash_X7_put rfl hdX7_put ⟨⟨rfl, rfl⟩, Nat.le_of_ble_eq_true rfl, Nat.le_of_ble_eq_true rfl⟩ (sk_recv hK hw kdn_156 (kd_in kdn_156) (by decide) rfl) (sk_pre hK hw) rfl hl.1 rfl (Nat.le_of_ble_eq_true rfl) (okX1_firstClash (21, .invokevirtual 50, 3) (List.mem_of_getElem? (i := 12) rfl)) ⟨Nat.zero_le _, Nat.zero_le _⟩) hw (fun I_21 H locs hM hw => ?_)
      obtain ⟨hr1, hM⟩ := hM
      obtain ⟨v2_24, ev2_24⟩ : ∃ y : Int, y = v2 + 1 := ⟨_, rfl⟩
      have hM := hM v2_24 ev2_24
      have hr_v2_24 : rI v2_24 := by rw [ev2_24]; exact hr1
      refine lv_iinc (v := iI v2_24) (lv' := [(2, .int (iI v2_24)), (0, .ref (sk_ad G 149)), (1, .ref (sk_ad G 36))]) hx hb (okX1_firstClash (24, .iinc 2 1, 3) (List.mem_of_getElem? (i := 13) rfl)) hl (k := 2) rfl (by rw [ev2_24]; exact iI_add _ _) (by decide) rfl (fun ls hl => ?_)
      refine lv_goto (tgt := 2) hx hb (okX1_firstClash (27, .goto (-25), 3) (List.mem_of_getElem? (i := 14) rfl)) (by decide) ?_
      exact (hX_2 v2_24 I_21).1 hM hr_v2_24 H locs ls hw (lv_sub hl [1, 2, 0] rfl)
  unfold M_Foreign_firstClash at hM
  intro H locs hw
  refine lv_iconst (v := iI 0) hx hb (okX1_firstClash (0, .iconst 0, 1) (List.mem_of_getElem? (i := 0) rfl)) rfl ?_
  refine lv_istore_n (lv' := [(2, .int (iI 0)), (0, .ref (sk_ad G 149)), (1, .ref (sk_ad G 36))]) hx hb (okX1_firstClash (1, .istore_n 2, 1) (List.mem_of_getElem? (i := 1) rfl)) rfl hl (by decide) rfl (fun ls hl => ?_)
  exact hJ_2 0 I (by decide) hM H locs ls hw (lv_sub hl [1, 2, 0] rfl)
def rmX1_isBehind : Room := { frames := 2, cells := 0, slots := 0, locals := 107 }
set_option maxHeartbeats 4000000 in
set_option maxRecDepth 100000 in
theorem c_Foreign_isBehind (l : Launch) (G : sk_G) {p1 p2 : Int} (hr_p1 : rI p1) (hr_p2 : rI p2) {Q : Int → sk_S → Prop} {I : sk_S} (hM : M_Foreign_isBehind p1 p2 Q I) : Met l yX1_isBehind wsX1_isBehind rmX1_isBehind (va_Pc [.ref (sk_ad G 149), .int (iI p1), .int (iI p2)] (sk_U G 198 sk_t I)) (sk_Qz G 198 sk_t Q) 0 0 (sk_A G) := by
  refine Met.ofW (cc := cX1_isBehind) (maxL := 4) (ret := (some .boolean)) (by decide) rfl ?_
  intro p e s m args below meth c s₁ B hml hv
  obtain ⟨rfl, hU, hK⟩ := hv
  have hx := B.exec
  have hb := B.bytes
  have hr0 := B.returns
  have hts := atoms_spec (ws := wsX1_isBehind) B.pre
  have hown : s.vm.findClass RX1 = some m.cls := findClass_of_methodNamed B.named
  have hlocks := B.notSynchronized
  have S : CallFix p m c cX1_isBehind 4 s ([.ref (sk_ad G 149), .int (iI p1), .int (iI p2)].toArray) wsX1_isBehind RX1 := ⟨hx, hb, hml, hown, hts⟩
  have hL0 := hts (.fieldLink RX1 23 "SkyLights$Foreign" "tails" "LSkyLights$Row;") (by decide +kernel)
  have hI1 : ∀ w ∈ u_ws RX1 TX1 7, w ∈ wsX1_isBehind := by decide +kernel
  have hw : sk_W G 198 sk_t I s s.heap [] := ⟨hU, va_S.rf⟩
  have hl := lv_entry ([.ref (sk_ad G 149), .int (iI p1), .int (iI p2)]) (n := 4) (Nat.le_of_ble_eq_true rfl)
  rw [lg_entry_eq]
  generalize (lg_sl ([.ref (sk_ad G 149), .int (iI p1), .int (iI p2)]) ++ List.replicate (4 - (lg_sl ([.ref (sk_ad G 149), .int (iI p1), .int (iI p2)])).length) Slot.unset).toArray = ls at hl ⊢
  have hl : lv_has ls 4 [(0, .ref (sk_ad G 149)), (1, .int (iI p1)), (2, .int (iI p2))] := hl
  suffices hgo : ∀ (H : Heap) (locs : List Loc), sk_W G 198 sk_t I s H locs → W p l e (headSpec wsX1_isBehind rmX1_isBehind).room s m ([.ref (sk_ad G 149), .int (iI p1), .int (iI p2)].toArray) below meth c H locs 0 0 (MQ below (sk_Qz G 198 sk_t Q) ([.ref (sk_ad G 149), .int (iI p1), .int (iI p2)].toArray) s 0 0 (sk_A G)) (F0 m 0 ls []) from hgo _ _ hw
  unfold M_Foreign_isBehind at hM
  intro H locs hw
  refine lv_aload_n hx hb (okX1_isBehind (0, .aload_n 0, 1) (List.mem_of_getElem? (i := 0) rfl)) rfl (lv_at hl 0 rfl) ?_
  refine sk_getr (b := 154) S hK hw kdn_149 (kd_in kdn_149) (C := RX1) (T := TX1) (N := 7) rfl hI1 2 ⟨by decide, rfl, by decide, rfl⟩ rfl (k' := 2) rfl rfl (by decide +kernel) hL0 (okX1_isBehind (1, .getfield 23, 3) (List.mem_of_getElem? (i := 1) rfl)) ?_
  refine lv_iload_n hx hb (okX1_isBehind (4, .iload_n 1, 1) (List.mem_of_getElem? (i := 2) rfl)) rfl (lv_at hl 1 rfl) ?_
  refine sk_ci (sk_runV (a := 154) (C := RX7) (As := [.int (iI p1)]) (rest := []) S (c_Row_at l G kdn_154 hr_p1 hM) sk_blind gX1_isBehind_X7_at rfl hdX7_at ⟨⟨rfl, rfl⟩, Nat.le_of_ble_eq_true rfl, Nat.le_of_ble_eq_true rfl⟩ (sk_recv hK hw kdn_154 (kd_in kdn_154) (by decide) rfl) (sk_pre hK hw) rfl hl.1 rfl (Nat.le_of_ble_eq_true rfl) (okX1_isBehind (5, .invokevirtual 42, 3) (List.mem_of_getElem? (i := 3) rfl)) ⟨Nat.zero_le _, Nat.zero_le _⟩) hw (fun r_5 I_5 H locs hr_r_5 hM hw => ?_)
  refine lv_istore_n (lv' := [(3, .int (iI r_5)), (0, .ref (sk_ad G 149)), (1, .int (iI p1)), (2, .int (iI p2))]) hx hb (okX1_isBehind (8, .istore_n 3, 1) (List.mem_of_getElem? (i := 4) rfl)) rfl hl (by decide) rfl (fun ls hl => ?_)
  refine lv_iload_n hx hb (okX1_isBehind (9, .iload_n 3, 1) (List.mem_of_getElem? (i := 5) rfl)) rfl (lv_at hl 0 rfl) ?_
  refine lv_iconst (v := iI (-1)) hx hb (okX1_isBehind (10, .iconst (-1), 1) (List.mem_of_getElem? (i := 6) rfl)) rfl ?_
  refine sk_icmp_eq (tgt := 24) hx hb hr_r_5 (by decide) (okX1_isBehind (11, .if_icmp .eq 13, 3) (List.mem_of_getElem? (i := 7) rfl)) (by decide) (fun c11 => ?_) (fun c11 => ?_)
  · have hM := hM.1 c11
    refine lv_iconst (v := iI 1) hx hb (okX1_isBehind (24, .iconst 1, 1) (List.mem_of_getElem? (i := 14) rfl)) rfl ?_
    refine lv_goto (tgt := 29) hx hb (okX1_isBehind (25, .goto 4, 3) (List.mem_of_getElem? (i := 15) rfl)) (by decide) ?_
    exact sk_zret hx hb hr0 hlocks hK hw (Or.inr rfl) hM (okX1_isBehind (29, .ireturn, 1) (List.mem_of_getElem? (i := 17) rfl))
  · have hM := hM.2 c11
    refine lv_iload_n hx hb (okX1_isBehind (14, .iload_n 2, 1) (List.mem_of_getElem? (i := 8) rfl)) rfl (lv_at hl 3 rfl) ?_
    refine lv_aload_n hx hb (okX1_isBehind (15, .aload_n 0, 1) (List.mem_of_getElem? (i := 9) rfl)) rfl (lv_at hl 1 rfl) ?_
    refine lv_iload_n hx hb (okX1_isBehind (16, .iload_n 3, 1) (List.mem_of_getElem? (i := 10) rfl)) rfl (lv_at hl 0 rfl) ?_
    refine lv_iconst (v := iI 3) hx hb (okX1_isBehind (17, .iconst 3, 1) (List.mem_of_getElem? (i := 11) rfl)) rfl ?_
    refine sk_ci (sk_runV (a := 149) (C := RX1) (As := [.int (iI r_5), .int (iI 3)]) (rest := [.int (iI p2)]) S (c_Foreign_told l G hr_r_5 (by decide) hM) sk_blind gX1_isBehind_X1_told rfl hdX1_told ⟨⟨rfl, rfl⟩, Nat.le_of_ble_eq_true rfl, Nat.le_of_ble_eq_true rfl⟩ (sk_recv hK hw kdn_149 (kd_in kdn_149) (by decide) rfl) (sk_pre hK hw) rfl hl.1 rfl (Nat.le_of_ble_eq_true rfl) (okX1_isBehind (18, .invokevirtual 46, 3) (List.mem_of_getElem? (i := 12) rfl)) ⟨Nat.zero_le _, Nat.zero_le _⟩) hw (fun r_18 I_18 H locs hr_r_18 hM hw => ?_)
    refine sk_icmp_le (tgt := 28) hx hb hr_p2 hr_r_18 (okX1_isBehind (21, .if_icmp .le 7, 3) (List.mem_of_getElem? (i := 13) rfl)) (by decide) (fun c21 => ?_) (fun c21 => ?_)
    · have hM := hM.1 c21
      refine lv_iconst (v := iI 0) hx hb (okX1_isBehind (28, .iconst 0, 1) (List.mem_of_getElem? (i := 16) rfl)) rfl ?_
      exact sk_zret hx hb hr0 hlocks hK hw (Or.inl rfl) hM (okX1_isBehind (29, .ireturn, 1) (List.mem_of_getElem? (i := 17) rfl))
    · have hM := hM.2 c21
      refine lv_iconst (v := iI 1) hx hb (okX1_isBehind (24, .iconst 1, 1) (List.mem_of_getElem? (i := 14) rfl)) rfl ?_
      refine lv_goto (tgt := 29) hx hb (okX1_isBehind (25, .goto 4, 3) (List.mem_of_getElem? (i := 15) rfl)) (by decide) ?_
      exact sk_zret hx hb hr0 hlocks hK hw (Or.inr rfl) hM (okX1_isBehind (29, .ireturn, 1) (List.mem_of_getElem? (i := 17) rfl))
def rmX1_size : Room := { frames := 0, cells := 0, slots := 0, locals := 0 }
set_option maxHeartbeats 4000000 in
set_option maxRecDepth 100000 in
theorem c_Foreign_size (l : Launch) (G : sk_G) {Q : Int → sk_S → Prop} {I : sk_S} (hM : M_Foreign_size Q I) : Met l yX1_size wsX1_size rmX1_size (va_Pc [.ref (sk_ad G 149)] (sk_U G 198 sk_t I)) (sk_Qi G 198 sk_t Q) 0 0 (sk_A G) := by
  refine Met.ofW (cc := cX1_size) (maxL := 1) (ret := (some .int)) (by decide) rfl ?_
  intro p e s m args below meth c s₁ B hml hv
  obtain ⟨rfl, hU, hK⟩ := hv
  have hx := B.exec
  have hb := B.bytes
  have hr0 := B.returns
  have hts := atoms_spec (ws := wsX1_size) B.pre
  have hown : s.vm.findClass RX1 = some m.cls := findClass_of_methodNamed B.named
  have hlocks := B.notSynchronized
  have S : CallFix p m c cX1_size 1 s ([.ref (sk_ad G 149)].toArray) wsX1_size RX1 := ⟨hx, hb, hml, hown, hts⟩
  have hL0 := hts (.fieldLink RX1 29 "SkyLights$Foreign" "size" "I") (by decide +kernel)
  have hI1 : ∀ w ∈ u_ws RX1 TX1 7, w ∈ wsX1_size := by decide +kernel
  have hw : sk_W G 198 sk_t I s s.heap [] := ⟨hU, va_S.rf⟩
  have hl := lv_entry ([.ref (sk_ad G 149)]) (n := 1) (Nat.le_of_ble_eq_true rfl)
  rw [lg_entry_eq]
  generalize (lg_sl ([.ref (sk_ad G 149)]) ++ List.replicate (1 - (lg_sl ([.ref (sk_ad G 149)])).length) Slot.unset).toArray = ls at hl ⊢
  have hl : lv_has ls 1 [(0, .ref (sk_ad G 149))] := hl
  suffices hgo : ∀ (H : Heap) (locs : List Loc), sk_W G 198 sk_t I s H locs → W p l e (headSpec wsX1_size rmX1_size).room s m ([.ref (sk_ad G 149)].toArray) below meth c H locs 0 0 (MQ below (sk_Qi G 198 sk_t Q) ([.ref (sk_ad G 149)].toArray) s 0 0 (sk_A G)) (F0 m 0 ls []) from hgo _ _ hw
  unfold M_Foreign_size at hM
  intro H locs hw
  refine lv_aload_n hx hb (okX1_size (0, .aload_n 0, 1) (List.mem_of_getElem? (i := 0) rfl)) rfl (lv_at hl 0 rfl) ?_
  have hr1 := hw.1.2.2 149 4
  refine sk_geti S hK hw kdn_149 (kd_in kdn_149) (C := RX1) (T := TX1) (N := 7) rfl hI1 4 ⟨by decide, rfl, by decide, rfl⟩ rfl (k' := 4) rfl hL0 (okX1_size (1, .getfield 29, 3) (List.mem_of_getElem? (i := 1) rfl)) ?_
  exact sk_iret hx hb hr0 hlocks hK hw hr1 hM (okX1_size (4, .ireturn, 1) (List.mem_of_getElem? (i := 2) rfl))
def rmX2_at : Room := { frames := 0, cells := 0, slots := 0, locals := 0 }
set_option maxHeartbeats 4000000 in
set_option maxRecDepth 100000 in
theorem c_Gallery_at (l : Launch) (G : sk_G) {p1 : Int} (hr_p1 : rI p1) {Q : Int → sk_S → Prop} {I : sk_S} (hM : M_Gallery_at p1 Q I) : Met l yX2_at wsX2_at rmX2_at (va_Pc [.ref (sk_ad G 4), .int (iI p1)] (sk_U G 198 sk_t I)) (sk_Qr G 198 sk_t 5 Q) 0 0 (sk_A G) := by
  refine Met.ofW (cc := cX2_at) (maxL := 2) (ret := (some (.object "SkyLights$Places"))) (by decide) rfl ?_
  intro p e s m args below meth c s₁ B hml hv
  obtain ⟨rfl, hU, hK⟩ := hv
  have hx := B.exec
  have hb := B.bytes
  have hr0 := B.returns
  have hts := atoms_spec (ws := wsX2_at) B.pre
  have hown : s.vm.findClass RX2 = some m.cls := findClass_of_methodNamed B.named
  have hlocks := B.notSynchronized
  have S : CallFix p m c cX2_at 2 s ([.ref (sk_ad G 4), .int (iI p1)].toArray) wsX2_at RX2 := ⟨hx, hb, hml, hown, hts⟩
  have hL0 := hts (.fieldLink RX2 22 "SkyLights$Gallery" "nothing" "LSkyLights$Places;") (by decide +kernel)
  have hL1 := hts (.fieldLink RX2 18 "SkyLights$Gallery" "figures" "[LSkyLights$Places;") (by decide +kernel)
  have hL2 := hts (.fieldLink RX2 12 "SkyLights$Gallery" "pads" "LSkyLights$Places;") (by decide +kernel)
  have hI2 : ∀ w ∈ u_ws RX2 TX2 4, w ∈ wsX2_at := by decide +kernel
  have hw : sk_W G 198 sk_t I s s.heap [] := ⟨hU, va_S.rf⟩
  have hl := lv_entry ([.ref (sk_ad G 4), .int (iI p1)]) (n := 2) (Nat.le_of_ble_eq_true rfl)
  rw [lg_entry_eq]
  generalize (lg_sl ([.ref (sk_ad G 4), .int (iI p1)]) ++ List.replicate (2 - (lg_sl ([.ref (sk_ad G 4), .int (iI p1)])).length) Slot.unset).toArray = ls at hl ⊢
  have hl : lv_has ls 2 [(0, .ref (sk_ad G 4)), (1, .int (iI p1))] := hl
  suffices hgo : ∀ (H : Heap) (locs : List Loc), sk_W G 198 sk_t I s H locs → W p l e (headSpec wsX2_at rmX2_at).room s m ([.ref (sk_ad G 4), .int (iI p1)].toArray) below meth c H locs 0 0 (MQ below (sk_Qr G 198 sk_t 5 Q) ([.ref (sk_ad G 4), .int (iI p1)].toArray) s 0 0 (sk_A G)) (F0 m 0 ls []) from hgo _ _ hw
  unfold M_Gallery_at at hM
  intro H locs hw
  refine lv_iload_n hx hb (okX2_at (0, .iload_n 1, 1) (List.mem_of_getElem? (i := 0) rfl)) rfl (lv_at hl 1 rfl) ?_
  refine lv_iconst (v := iI (-1)) hx hb (okX2_at (1, .iconst (-1), 1) (List.mem_of_getElem? (i := 1) rfl)) rfl ?_
  refine sk_icmp_ne (tgt := 10) hx hb hr_p1 (by decide) (okX2_at (2, .if_icmp .ne 8, 3) (List.mem_of_getElem? (i := 2) rfl)) (by decide) (fun c2 => ?_) (fun c2 => ?_)
  · have hM := hM.1 c2
    refine lv_iload_n hx hb (okX2_at (10, .iload_n 1, 1) (List.mem_of_getElem? (i := 6) rfl)) rfl (lv_at hl 1 rfl) ?_
    refine sk_if_lt (tgt := 32) hx hb hr_p1 (okX2_at (11, .ifCond .lt 21, 3) (List.mem_of_getElem? (i := 7) rfl)) (by decide) (fun c11 => ?_) (fun c11 => ?_)
    · have hM := hM.1 c11
      refine lv_aload_n hx hb (okX2_at (32, .aload_n 0, 1) (List.mem_of_getElem? (i := 18) rfl)) rfl (lv_at hl 0 rfl) ?_
      refine sk_getr (b := 9) S hK hw kdn_4 (kd_in kdn_4) (C := RX2) (T := TX2) (N := 4) rfl hI2 2 ⟨by decide, rfl, by decide, rfl⟩ rfl (k' := 2) rfl rfl (by decide +kernel) hL0 (okX2_at (33, .getfield 22, 3) (List.mem_of_getElem? (i := 19) rfl)) ?_
      exact sk_aret hx hb hr0 ⟨_, rfl⟩ hlocks hK hw kdn_9 hM (okX2_at (36, .areturn, 1) (List.mem_of_getElem? (i := 20) rfl))
    · have hM := hM.2 c11
      refine lv_iload_n hx hb (okX2_at (14, .iload_n 1, 1) (List.mem_of_getElem? (i := 8) rfl)) rfl (lv_at hl 1 rfl) ?_
      refine lv_aload_n hx hb (okX2_at (15, .aload_n 0, 1) (List.mem_of_getElem? (i := 9) rfl)) rfl (lv_at hl 0 rfl) ?_
      refine sk_getr (b := 8) S hK hw kdn_4 (kd_in kdn_4) (C := RX2) (T := TX2) (N := 4) rfl hI2 1 ⟨by decide, rfl, by decide, rfl⟩ rfl (k' := 1) rfl rfl (by decide +kernel) hL1 (okX2_at (16, .getfield 18, 3) (List.mem_of_getElem? (i := 10) rfl)) ?_
      refine sk_len S hK hw (Or.inr (Or.inl kdn_8)) (kd_in kdn_8) (okX2_at (19, .arraylength, 1) (List.mem_of_getElem? (i := 11) rfl)) ?_
      rw [lnn_8]
      refine sk_icmp_ge (tgt := 32) hx hb hr_p1 (by decide) (okX2_at (20, .if_icmp .ge 12, 3) (List.mem_of_getElem? (i := 12) rfl)) (by decide) (fun c20 => ?_) (fun c20 => ?_)
      · have hM := hM.1 c20
        refine lv_aload_n hx hb (okX2_at (32, .aload_n 0, 1) (List.mem_of_getElem? (i := 18) rfl)) rfl (lv_at hl 0 rfl) ?_
        refine sk_getr (b := 9) S hK hw kdn_4 (kd_in kdn_4) (C := RX2) (T := TX2) (N := 4) rfl hI2 2 ⟨by decide, rfl, by decide, rfl⟩ rfl (k' := 2) rfl rfl (by decide +kernel) hL0 (okX2_at (33, .getfield 22, 3) (List.mem_of_getElem? (i := 19) rfl)) ?_
        exact sk_aret hx hb hr0 ⟨_, rfl⟩ hlocks hK hw kdn_9 hM (okX2_at (36, .areturn, 1) (List.mem_of_getElem? (i := 20) rfl))
      · have hM := hM.2 c20
        refine lv_aload_n hx hb (okX2_at (23, .aload_n 0, 1) (List.mem_of_getElem? (i := 13) rfl)) rfl (lv_at hl 0 rfl) ?_
        refine sk_getr (b := 8) S hK hw kdn_4 (kd_in kdn_4) (C := RX2) (T := TX2) (N := 4) rfl hI2 1 ⟨by decide, rfl, by decide, rfl⟩ rfl (k' := 1) rfl rfl (by decide +kernel) hL1 (okX2_at (24, .getfield 18, 3) (List.mem_of_getElem? (i := 14) rfl)) ?_
        refine lv_iload_n hx hb (okX2_at (27, .iload_n 1, 1) (List.mem_of_getElem? (i := 15) rfl)) rfl (lv_at hl 1 rfl) ?_
        obtain ⟨hi1, hM⟩ := hM
        refine sk_ald S hK hw (Or.inl kdn_8) (kd_in kdn_8) (by rw [lnn_8]; exact hi1) rfl rf14 (okX2_at (28, .aaload, 1) (List.mem_of_getElem? (i := 16) rfl)) ?_
        refine lv_goto (tgt := 36) hx hb (okX2_at (29, .goto 7, 3) (List.mem_of_getElem? (i := 17) rfl)) (by decide) ?_
        exact sk_aret hx hb hr0 ⟨_, rfl⟩ hlocks hK hw (kd_fig hi1) hM (okX2_at (36, .areturn, 1) (List.mem_of_getElem? (i := 20) rfl))
  · have hM := hM.2 c2
    refine lv_aload_n hx hb (okX2_at (5, .aload_n 0, 1) (List.mem_of_getElem? (i := 3) rfl)) rfl (lv_at hl 0 rfl) ?_
    refine sk_getr (b := 5) S hK hw kdn_4 (kd_in kdn_4) (C := RX2) (T := TX2) (N := 4) rfl hI2 0 ⟨by decide, rfl, by decide, rfl⟩ rfl (k' := 0) rfl rfl (by decide +kernel) hL2 (okX2_at (6, .getfield 12, 3) (List.mem_of_getElem? (i := 4) rfl)) ?_
    exact sk_aret hx hb hr0 ⟨_, rfl⟩ hlocks hK hw kdn_5 hM (okX2_at (9, .areturn, 1) (List.mem_of_getElem? (i := 5) rfl))
def rmX2_has : Room := { frames := 0, cells := 0, slots := 0, locals := 0 }
set_option maxHeartbeats 4000000 in
set_option maxRecDepth 100000 in
theorem c_Gallery_has (l : Launch) (G : sk_G) {p1 : Int} (hr_p1 : rI p1) {Q : Int → sk_S → Prop} {I : sk_S} (hM : M_Gallery_has p1 Q I) : Met l yX2_has wsX2_has rmX2_has (va_Pc [.ref (sk_ad G 4), .int (iI p1)] (sk_U G 198 sk_t I)) (sk_Qz G 198 sk_t Q) 0 0 (sk_A G) := by
  refine Met.ofW (cc := cX2_has) (maxL := 2) (ret := (some .boolean)) (by decide) rfl ?_
  intro p e s m args below meth c s₁ B hml hv
  obtain ⟨rfl, hU, hK⟩ := hv
  have hx := B.exec
  have hb := B.bytes
  have hr0 := B.returns
  have hts := atoms_spec (ws := wsX2_has) B.pre
  have hown : s.vm.findClass RX2 = some m.cls := findClass_of_methodNamed B.named
  have hlocks := B.notSynchronized
  have S : CallFix p m c cX2_has 2 s ([.ref (sk_ad G 4), .int (iI p1)].toArray) wsX2_has RX2 := ⟨hx, hb, hml, hown, hts⟩
  have hL0 := hts (.fieldLink RX2 25 "SkyLights$Gallery" "size" "I") (by decide +kernel)
  have hI2 : ∀ w ∈ u_ws RX2 TX2 4, w ∈ wsX2_has := by decide +kernel
  have hw : sk_W G 198 sk_t I s s.heap [] := ⟨hU, va_S.rf⟩
  have hl := lv_entry ([.ref (sk_ad G 4), .int (iI p1)]) (n := 2) (Nat.le_of_ble_eq_true rfl)
  rw [lg_entry_eq]
  generalize (lg_sl ([.ref (sk_ad G 4), .int (iI p1)]) ++ List.replicate (2 - (lg_sl ([.ref (sk_ad G 4), .int (iI p1)])).length) Slot.unset).toArray = ls at hl ⊢
  have hl : lv_has ls 2 [(0, .ref (sk_ad G 4)), (1, .int (iI p1))] := hl
  suffices hgo : ∀ (H : Heap) (locs : List Loc), sk_W G 198 sk_t I s H locs → W p l e (headSpec wsX2_has rmX2_has).room s m ([.ref (sk_ad G 4), .int (iI p1)].toArray) below meth c H locs 0 0 (MQ below (sk_Qz G 198 sk_t Q) ([.ref (sk_ad G 4), .int (iI p1)].toArray) s 0 0 (sk_A G)) (F0 m 0 ls []) from hgo _ _ hw
  unfold M_Gallery_has at hM
  intro H locs hw
  refine lv_iload_n hx hb (okX2_has (0, .iload_n 1, 1) (List.mem_of_getElem? (i := 0) rfl)) rfl (lv_at hl 1 rfl) ?_
  refine sk_if_lt (tgt := 16) hx hb hr_p1 (okX2_has (1, .ifCond .lt 15, 3) (List.mem_of_getElem? (i := 1) rfl)) (by decide) (fun c1 => ?_) (fun c1 => ?_)
  · have hM := hM.1 c1
    refine lv_iconst (v := iI 0) hx hb (okX2_has (16, .iconst 0, 1) (List.mem_of_getElem? (i := 8) rfl)) rfl ?_
    exact sk_zret hx hb hr0 hlocks hK hw (Or.inl rfl) hM (okX2_has (17, .ireturn, 1) (List.mem_of_getElem? (i := 9) rfl))
  · have hM := hM.2 c1
    refine lv_iload_n hx hb (okX2_has (4, .iload_n 1, 1) (List.mem_of_getElem? (i := 2) rfl)) rfl (lv_at hl 1 rfl) ?_
    refine lv_aload_n hx hb (okX2_has (5, .aload_n 0, 1) (List.mem_of_getElem? (i := 3) rfl)) rfl (lv_at hl 0 rfl) ?_
    have hr1 := hw.1.2.2 4 3
    refine sk_geti S hK hw kdn_4 (kd_in kdn_4) (C := RX2) (T := TX2) (N := 4) rfl hI2 3 ⟨by decide, rfl, by decide, rfl⟩ rfl (k' := 3) rfl hL0 (okX2_has (6, .getfield 25, 3) (List.mem_of_getElem? (i := 4) rfl)) ?_
    refine sk_icmp_ge (tgt := 16) hx hb hr_p1 hr1 (okX2_has (9, .if_icmp .ge 7, 3) (List.mem_of_getElem? (i := 5) rfl)) (by decide) (fun c9 => ?_) (fun c9 => ?_)
    · have hM := hM.1 c9
      refine lv_iconst (v := iI 0) hx hb (okX2_has (16, .iconst 0, 1) (List.mem_of_getElem? (i := 8) rfl)) rfl ?_
      exact sk_zret hx hb hr0 hlocks hK hw (Or.inl rfl) hM (okX2_has (17, .ireturn, 1) (List.mem_of_getElem? (i := 9) rfl))
    · have hM := hM.2 c9
      refine lv_iconst (v := iI 1) hx hb (okX2_has (12, .iconst 1, 1) (List.mem_of_getElem? (i := 6) rfl)) rfl ?_
      refine lv_goto (tgt := 17) hx hb (okX2_has (13, .goto 4, 3) (List.mem_of_getElem? (i := 7) rfl)) (by decide) ?_
      exact sk_zret hx hb hr0 hlocks hK hw (Or.inr rfl) hM (okX2_has (17, .ireturn, 1) (List.mem_of_getElem? (i := 9) rfl))
def rmX2_keepSpare : Room := { frames := 0, cells := 0, slots := 0, locals := 0 }
set_option maxHeartbeats 4000000 in
set_option maxRecDepth 100000 in
theorem c_Gallery_keepSpare (l : Launch) (G : sk_G) {Q : Int → sk_S → Prop} {I : sk_S} (hM : M_Gallery_keepSpare Q I) : Met l yX2_keepSpare wsX2_keepSpare rmX2_keepSpare (va_Pc [.ref (sk_ad G 4)] (sk_U G 198 sk_t I)) (sk_Qi G 198 sk_t Q) 0 0 (sk_A G) := by
  refine Met.ofW (cc := cX2_keepSpare) (maxL := 1) (ret := (some .int)) (by decide) rfl ?_
  intro p e s m args below meth c s₁ B hml hv
  obtain ⟨rfl, hU, hK⟩ := hv
  have hx := B.exec
  have hb := B.bytes
  have hr0 := B.returns
  have hts := atoms_spec (ws := wsX2_keepSpare) B.pre
  have hown : s.vm.findClass RX2 = some m.cls := findClass_of_methodNamed B.named
  have hlocks := B.notSynchronized
  have S : CallFix p m c cX2_keepSpare 1 s ([.ref (sk_ad G 4)].toArray) wsX2_keepSpare RX2 := ⟨hx, hb, hml, hown, hts⟩
  have hL0 := hts (.fieldLink RX2 25 "SkyLights$Gallery" "size" "I") (by decide +kernel)
  have hI2 : ∀ w ∈ u_ws RX2 TX2 4, w ∈ wsX2_keepSpare := by decide +kernel
  have hw : sk_W G 198 sk_t I s s.heap [] := ⟨hU, va_S.rf⟩
  have hl := lv_entry ([.ref (sk_ad G 4)]) (n := 1) (Nat.le_of_ble_eq_true rfl)
  rw [lg_entry_eq]
  generalize (lg_sl ([.ref (sk_ad G 4)]) ++ List.replicate (1 - (lg_sl ([.ref (sk_ad G 4)])).length) Slot.unset).toArray = ls at hl ⊢
  have hl : lv_has ls 1 [(0, .ref (sk_ad G 4))] := hl
  suffices hgo : ∀ (H : Heap) (locs : List Loc), sk_W G 198 sk_t I s H locs → W p l e (headSpec wsX2_keepSpare rmX2_keepSpare).room s m ([.ref (sk_ad G 4)].toArray) below meth c H locs 0 0 (MQ below (sk_Qi G 198 sk_t Q) ([.ref (sk_ad G 4)].toArray) s 0 0 (sk_A G)) (F0 m 0 ls []) from hgo _ _ hw
  unfold M_Gallery_keepSpare at hM
  intro H locs hw
  refine lv_aload_n hx hb (okX2_keepSpare (0, .aload_n 0, 1) (List.mem_of_getElem? (i := 0) rfl)) rfl (lv_at hl 0 rfl) ?_
  refine lv_dup hx hb (okX2_keepSpare (1, .dup, 1) (List.mem_of_getElem? (i := 1) rfl)) rfl ?_
  have hr1 := hw.1.2.2 4 3
  refine sk_geti S hK hw kdn_4 (kd_in kdn_4) (C := RX2) (T := TX2) (N := 4) rfl hI2 3 ⟨by decide, rfl, by decide, rfl⟩ rfl (k' := 3) rfl hL0 (okX2_keepSpare (2, .getfield 25, 3) (List.mem_of_getElem? (i := 2) rfl)) ?_
  refine lv_iconst (v := iI 1) hx hb (okX2_keepSpare (5, .iconst 1, 1) (List.mem_of_getElem? (i := 3) rfl)) rfl ?_
  refine sk_iadd hx hb (okX2_keepSpare (6, .iadd, 1) (List.mem_of_getElem? (i := 4) rfl)) ?_
  obtain ⟨hr2, hM⟩ := hM
  refine sk_put S hK hw kdn_4 (kd_in kdn_4) (C := RX2) (T := TX2) (N := 4) rfl hI2 tyX2 tyX2_ok nmX2 3 ⟨by decide, rfl, by decide, rfl⟩ rfl rfl (k' := 3) rfl hr2 ⟨rfl, rfl⟩ hL0 (okX2_keepSpare (7, .putfield 25, 3) (List.mem_of_getElem? (i := 5) rfl)) (fun H locs hw => ?_)
  refine lv_aload_n hx hb (okX2_keepSpare (10, .aload_n 0, 1) (List.mem_of_getElem? (i := 6) rfl)) rfl (lv_at hl 0 rfl) ?_
  have hr3 := hw.1.2.2 4 3
  refine sk_geti S hK hw kdn_4 (kd_in kdn_4) (C := RX2) (T := TX2) (N := 4) rfl hI2 3 ⟨by decide, rfl, by decide, rfl⟩ rfl (k' := 3) rfl hL0 (okX2_keepSpare (11, .getfield 25, 3) (List.mem_of_getElem? (i := 7) rfl)) ?_
  refine lv_iconst (v := iI 1) hx hb (okX2_keepSpare (14, .iconst 1, 1) (List.mem_of_getElem? (i := 8) rfl)) rfl ?_
  refine sk_isub hx hb (okX2_keepSpare (15, .isub, 1) (List.mem_of_getElem? (i := 9) rfl)) ?_
  obtain ⟨hr4, hM⟩ := hM
  exact sk_iret hx hb hr0 hlocks hK hw hr4 hM (okX2_keepSpare (16, .ireturn, 1) (List.mem_of_getElem? (i := 10) rfl))
def rmX2_size : Room := { frames := 0, cells := 0, slots := 0, locals := 0 }
set_option maxHeartbeats 4000000 in
set_option maxRecDepth 100000 in
theorem c_Gallery_size (l : Launch) (G : sk_G) {Q : Int → sk_S → Prop} {I : sk_S} (hM : M_Gallery_size Q I) : Met l yX2_size wsX2_size rmX2_size (va_Pc [.ref (sk_ad G 4)] (sk_U G 198 sk_t I)) (sk_Qi G 198 sk_t Q) 0 0 (sk_A G) := by
  refine Met.ofW (cc := cX2_size) (maxL := 1) (ret := (some .int)) (by decide) rfl ?_
  intro p e s m args below meth c s₁ B hml hv
  obtain ⟨rfl, hU, hK⟩ := hv
  have hx := B.exec
  have hb := B.bytes
  have hr0 := B.returns
  have hts := atoms_spec (ws := wsX2_size) B.pre
  have hown : s.vm.findClass RX2 = some m.cls := findClass_of_methodNamed B.named
  have hlocks := B.notSynchronized
  have S : CallFix p m c cX2_size 1 s ([.ref (sk_ad G 4)].toArray) wsX2_size RX2 := ⟨hx, hb, hml, hown, hts⟩
  have hL0 := hts (.fieldLink RX2 25 "SkyLights$Gallery" "size" "I") (by decide +kernel)
  have hI2 : ∀ w ∈ u_ws RX2 TX2 4, w ∈ wsX2_size := by decide +kernel
  have hw : sk_W G 198 sk_t I s s.heap [] := ⟨hU, va_S.rf⟩
  have hl := lv_entry ([.ref (sk_ad G 4)]) (n := 1) (Nat.le_of_ble_eq_true rfl)
  rw [lg_entry_eq]
  generalize (lg_sl ([.ref (sk_ad G 4)]) ++ List.replicate (1 - (lg_sl ([.ref (sk_ad G 4)])).length) Slot.unset).toArray = ls at hl ⊢
  have hl : lv_has ls 1 [(0, .ref (sk_ad G 4))] := hl
  suffices hgo : ∀ (H : Heap) (locs : List Loc), sk_W G 198 sk_t I s H locs → W p l e (headSpec wsX2_size rmX2_size).room s m ([.ref (sk_ad G 4)].toArray) below meth c H locs 0 0 (MQ below (sk_Qi G 198 sk_t Q) ([.ref (sk_ad G 4)].toArray) s 0 0 (sk_A G)) (F0 m 0 ls []) from hgo _ _ hw
  unfold M_Gallery_size at hM
  intro H locs hw
  refine lv_aload_n hx hb (okX2_size (0, .aload_n 0, 1) (List.mem_of_getElem? (i := 0) rfl)) rfl (lv_at hl 0 rfl) ?_
  have hr1 := hw.1.2.2 4 3
  refine sk_geti S hK hw kdn_4 (kd_in kdn_4) (C := RX2) (T := TX2) (N := 4) rfl hI2 3 ⟨by decide, rfl, by decide, rfl⟩ rfl (k' := 3) rfl hL0 (okX2_size (1, .getfield 25, 3) (List.mem_of_getElem? (i := 1) rfl)) ?_
  exact sk_iret hx hb hr0 hlocks hK hw hr1 hM (okX2_size (4, .ireturn, 1) (List.mem_of_getElem? (i := 2) rfl))
def rmX2_spare : Room := { frames := 1, cells := 0, slots := 0, locals := 53 }
set_option maxHeartbeats 4000000 in
set_option maxRecDepth 100000 in
theorem c_Gallery_spare (l : Launch) (G : sk_G) {Q : Int → sk_S → Prop} {I : sk_S} (hM : M_Gallery_spare Q I) : Met l yX2_spare wsX2_spare rmX2_spare (va_Pc [.ref (sk_ad G 4)] (sk_U G 198 sk_t I)) (sk_Qr G 198 sk_t 5 Q) 0 0 (sk_A G) := by
  refine Met.ofW (cc := cX2_spare) (maxL := 1) (ret := (some (.object "SkyLights$Places"))) (by decide) rfl ?_
  intro p e s m args below meth c s₁ B hml hv
  obtain ⟨rfl, hU, hK⟩ := hv
  have hx := B.exec
  have hb := B.bytes
  have hr0 := B.returns
  have hts := atoms_spec (ws := wsX2_spare) B.pre
  have hown : s.vm.findClass RX2 = some m.cls := findClass_of_methodNamed B.named
  have hlocks := B.notSynchronized
  have S : CallFix p m c cX2_spare 1 s ([.ref (sk_ad G 4)].toArray) wsX2_spare RX2 := ⟨hx, hb, hml, hown, hts⟩
  have hL0 := hts (.fieldLink RX2 25 "SkyLights$Gallery" "size" "I") (by decide +kernel)
  have hI2 : ∀ w ∈ u_ws RX2 TX2 4, w ∈ wsX2_spare := by decide +kernel
  have hw : sk_W G 198 sk_t I s s.heap [] := ⟨hU, va_S.rf⟩
  have hl := lv_entry ([.ref (sk_ad G 4)]) (n := 1) (Nat.le_of_ble_eq_true rfl)
  rw [lg_entry_eq]
  generalize (lg_sl ([.ref (sk_ad G 4)]) ++ List.replicate (1 - (lg_sl ([.ref (sk_ad G 4)])).length) Slot.unset).toArray = ls at hl ⊢
  have hl : lv_has ls 1 [(0, .ref (sk_ad G 4))] := hl
  suffices hgo : ∀ (H : Heap) (locs : List Loc), sk_W G 198 sk_t I s H locs → W p l e (headSpec wsX2_spare rmX2_spare).room s m ([.ref (sk_ad G 4)].toArray) below meth c H locs 0 0 (MQ below (sk_Qr G 198 sk_t 5 Q) ([.ref (sk_ad G 4)].toArray) s 0 0 (sk_A G)) (F0 m 0 ls []) from hgo _ _ hw
  unfold M_Gallery_spare at hM
  intro H locs hw
  refine lv_aload_n hx hb (okX2_spare (0, .aload_n 0, 1) (List.mem_of_getElem? (i := 0) rfl)) rfl (lv_at hl 0 rfl) ?_
  refine lv_aload_n hx hb (okX2_spare (1, .aload_n 0, 1) (List.mem_of_getElem? (i := 1) rfl)) rfl (lv_at hl 0 rfl) ?_
  have hr1 := hw.1.2.2 4 3
  refine sk_geti S hK hw kdn_4 (kd_in kdn_4) (C := RX2) (T := TX2) (N := 4) rfl hI2 3 ⟨by decide, rfl, by decide, rfl⟩ rfl (k' := 3) rfl hL0 (okX2_spare (2, .getfield 25, 3) (List.mem_of_getElem? (i := 2) rfl)) ?_
  refine sk_cr (sk_runV (a := 4) (C := RX2) (As := [.int (iI (I 4 3))]) (rest := []) S (c_Gallery_at l G hr1 hM) sk_blind gX2_spare_X2_at rfl hdX2_at ⟨⟨rfl, rfl⟩, Nat.le_of_ble_eq_true rfl, Nat.le_of_ble_eq_true rfl⟩ (sk_recv hK hw kdn_4 (kd_in kdn_4) (by decide) rfl) (sk_pre hK hw) rfl hl.1 rfl (Nat.le_of_ble_eq_true rfl) (okX2_spare (5, .invokevirtual 29, 3) (List.mem_of_getElem? (i := 3) rfl)) ⟨Nat.zero_le _, Nat.zero_le _⟩) hw (fun r_5 I_5 H locs hk_r_5 hM hw => ?_)
  exact sk_aret hx hb hr0 ⟨_, rfl⟩ hlocks hK hw hk_r_5 hM (okX2_spare (8, .areturn, 1) (List.mem_of_getElem? (i := 4) rfl))
def rmX3_doMeet : Room := { frames := 1, cells := 0, slots := 0, locals := 53 }
set_option maxHeartbeats 4000000 in
set_option maxRecDepth 100000 in
theorem c_Parting_doMeet (l : Launch) (G : sk_G) {p1 p2 : Int} (hr_p1 : rI p1) (hr_p2 : rI p2) {Q : Int → sk_S → Prop} {I : sk_S} (hM : M_Parting_doMeet p1 p2 Q I) : Met l yX3_doMeet wsX3_doMeet rmX3_doMeet (va_Pc [.ref (sk_ad G 47), .int (iI p1), .int (iI p2)] (sk_U G 198 sk_t I)) (sk_Qz G 198 sk_t Q) 0 0 (sk_A G) := by
  refine Met.ofW (cc := cX3_doMeet) (maxL := 4) (ret := (some .boolean)) (by decide) rfl ?_
  intro p e s m args below meth c s₁ B hml hv
  obtain ⟨rfl, hU, hK⟩ := hv
  have hx := B.exec
  have hb := B.bytes
  have hr0 := B.returns
  have hts := atoms_spec (ws := wsX3_doMeet) B.pre
  have hown : s.vm.findClass RX3 = some m.cls := findClass_of_methodNamed B.named
  have hlocks := B.notSynchronized
  have S : CallFix p m c cX3_doMeet 4 s ([.ref (sk_ad G 47), .int (iI p1), .int (iI p2)].toArray) wsX3_doMeet RX3 := ⟨hx, hb, hml, hown, hts⟩
  have hL0 := hts (.fieldLink RX3 20 "SkyLights$Parting" "tried" "LSkyLights$Row;") (by decide +kernel)
  have hL1 := hts (.fieldLink RX3 14 "SkyLights$Parting" "meetings" "LSkyLights$Row;") (by decide +kernel)
  have hI3 : ∀ w ∈ u_ws RX3 TX3 6, w ∈ wsX3_doMeet := by decide +kernel
  have hw : sk_W G 198 sk_t I s s.heap [] := ⟨hU, va_S.rf⟩
  have hl := lv_entry ([.ref (sk_ad G 47), .int (iI p1), .int (iI p2)]) (n := 4) (Nat.le_of_ble_eq_true rfl)
  rw [lg_entry_eq]
  generalize (lg_sl ([.ref (sk_ad G 47), .int (iI p1), .int (iI p2)]) ++ List.replicate (4 - (lg_sl ([.ref (sk_ad G 47), .int (iI p1), .int (iI p2)])).length) Slot.unset).toArray = ls at hl ⊢
  have hl : lv_has ls 4 [(0, .ref (sk_ad G 47)), (1, .int (iI p1)), (2, .int (iI p2))] := hl
  suffices hgo : ∀ (H : Heap) (locs : List Loc), sk_W G 198 sk_t I s H locs → W p l e (headSpec wsX3_doMeet rmX3_doMeet).room s m ([.ref (sk_ad G 47), .int (iI p1), .int (iI p2)].toArray) below meth c H locs 0 0 (MQ below (sk_Qz G 198 sk_t Q) ([.ref (sk_ad G 47), .int (iI p1), .int (iI p2)].toArray) s 0 0 (sk_A G)) (F0 m 0 ls []) from hgo _ _ hw
  unfold M_Parting_doMeet at hM
  intro H locs hw
  refine lv_aload_n hx hb (okX3_doMeet (0, .aload_n 0, 1) (List.mem_of_getElem? (i := 0) rfl)) rfl (lv_at hl 0 rfl) ?_
  refine sk_getr (b := 50) S hK hw kdn_47 (kd_in kdn_47) (C := RX3) (T := TX3) (N := 6) rfl hI3 1 ⟨by decide, rfl, by decide, rfl⟩ rfl (k' := 1) rfl rfl (by decide +kernel) hL0 (okX3_doMeet (1, .getfield 20, 3) (List.mem_of_getElem? (i := 1) rfl)) ?_
  refine lv_iload_n hx hb (okX3_doMeet (4, .iload_n 2, 1) (List.mem_of_getElem? (i := 2) rfl)) rfl (lv_at hl 2 rfl) ?_
  refine sk_ci (sk_runV (a := 50) (C := RX7) (As := [.int (iI p2)]) (rest := []) S (c_Row_at l G kdn_50 hr_p2 hM) sk_blind gX3_doMeet_X7_at rfl hdX7_at ⟨⟨rfl, rfl⟩, Nat.le_of_ble_eq_true rfl, Nat.le_of_ble_eq_true rfl⟩ (sk_recv hK hw kdn_50 (kd_in kdn_50) (by decide) rfl) (sk_pre hK hw) rfl hl.1 rfl (Nat.le_of_ble_eq_true rfl) (okX3_doMeet (5, .invokevirtual 59, 3) (List.mem_of_getElem? (i := 3) rfl)) ⟨Nat.zero_le _, Nat.zero_le _⟩) hw (fun r_5 I_5 H locs hr_r_5 hM hw => ?_)
  refine lv_aload_n hx hb (okX3_doMeet (8, .aload_n 0, 1) (List.mem_of_getElem? (i := 4) rfl)) rfl (lv_at hl 0 rfl) ?_
  refine sk_getr (b := 50) S hK hw kdn_47 (kd_in kdn_47) (C := RX3) (T := TX3) (N := 6) rfl hI3 1 ⟨by decide, rfl, by decide, rfl⟩ rfl (k' := 1) rfl rfl (by decide +kernel) hL0 (okX3_doMeet (9, .getfield 20, 3) (List.mem_of_getElem? (i := 5) rfl)) ?_
  refine lv_iload_n hx hb (okX3_doMeet (12, .iload_n 1, 1) (List.mem_of_getElem? (i := 6) rfl)) rfl (lv_at hl 1 rfl) ?_
  refine sk_ci (sk_runV (a := 50) (C := RX7) (As := [.int (iI p1)]) (rest := [.int (iI r_5)]) S (c_Row_at l G kdn_50 hr_p1 hM) sk_blind gX3_doMeet_X7_at rfl hdX7_at ⟨⟨rfl, rfl⟩, Nat.le_of_ble_eq_true rfl, Nat.le_of_ble_eq_true rfl⟩ (sk_recv hK hw kdn_50 (kd_in kdn_50) (by decide) rfl) (sk_pre hK hw) rfl hl.1 rfl (Nat.le_of_ble_eq_true rfl) (okX3_doMeet (13, .invokevirtual 59, 3) (List.mem_of_getElem? (i := 7) rfl)) ⟨Nat.zero_le _, Nat.zero_le _⟩) hw (fun r_13 I_13 H locs hr_r_13 hM hw => ?_)
  refine sk_isub hx hb (okX3_doMeet (16, .isub, 1) (List.mem_of_getElem? (i := 8) rfl)) ?_
  refine lv_iconst (v := iI 3) hx hb (okX3_doMeet (17, .iconst 3, 1) (List.mem_of_getElem? (i := 9) rfl)) rfl ?_
  refine sk_iadd hx hb (okX3_doMeet (18, .iadd, 1) (List.mem_of_getElem? (i := 10) rfl)) ?_
  obtain ⟨hr1, hM⟩ := hM
  refine sk_nm (fun v3_19 ev3_19 => ?_)
  have hM := hM v3_19 ev3_19
  have hr_v3_19 : rI v3_19 := by rw [ev3_19]; exact hr1
  refine lv_istore_n (lv' := [(3, .int (iI v3_19)), (0, .ref (sk_ad G 47)), (1, .int (iI p1)), (2, .int (iI p2))]) hx hb (okX3_doMeet (19, .istore_n 3, 1) (List.mem_of_getElem? (i := 11) rfl)) rfl hl (by decide) rfl (fun ls hl => ?_)
  refine lv_aload_n hx hb (okX3_doMeet (20, .aload_n 0, 1) (List.mem_of_getElem? (i := 12) rfl)) rfl (lv_at hl 1 rfl) ?_
  refine sk_getr (b := 48) S hK hw kdn_47 (kd_in kdn_47) (C := RX3) (T := TX3) (N := 6) rfl hI3 0 ⟨by decide, rfl, by decide, rfl⟩ rfl (k' := 0) rfl rfl (by decide +kernel) hL1 (okX3_doMeet (21, .getfield 14, 3) (List.mem_of_getElem? (i := 13) rfl)) ?_
  refine lv_iload_n hx hb (okX3_doMeet (24, .iload_n 1, 1) (List.mem_of_getElem? (i := 14) rfl)) rfl (lv_at hl 2 rfl) ?_
  refine lv_bipush (v := iI 10) hx hb (okX3_doMeet (25, .bipush 10, 2) (List.mem_of_getElem? (i := 15) rfl)) (by decide +kernel) ?_
  refine sk_imul hx hb (okX3_doMeet (27, .imul, 1) (List.mem_of_getElem? (i := 16) rfl)) ?_
  refine lv_iload_n hx hb (okX3_doMeet (28, .iload_n 2, 1) (List.mem_of_getElem? (i := 17) rfl)) rfl (lv_at hl 3 rfl) ?_
  refine sk_iadd hx hb (okX3_doMeet (29, .iadd, 1) (List.mem_of_getElem? (i := 18) rfl)) ?_
  obtain ⟨hr2, hM⟩ := hM
  refine sk_ci (sk_runV (a := 48) (C := RX7) (As := [.int (iI ((p1 * 10) + p2))]) (rest := []) S (c_Row_at l G kdn_48 hr2 hM) sk_blind gX3_doMeet_X7_at rfl hdX7_at ⟨⟨rfl, rfl⟩, Nat.le_of_ble_eq_true rfl, Nat.le_of_ble_eq_true rfl⟩ (sk_recv hK hw kdn_48 (kd_in kdn_48) (by decide) rfl) (sk_pre hK hw) rfl hl.1 rfl (Nat.le_of_ble_eq_true rfl) (okX3_doMeet (30, .invokevirtual 59, 3) (List.mem_of_getElem? (i := 19) rfl)) ⟨Nat.zero_le _, Nat.zero_le _⟩) hw (fun r_30 I_30 H locs hr_r_30 hM hw => ?_)
  refine lv_iload_n hx hb (okX3_doMeet (33, .iload_n 3, 1) (List.mem_of_getElem? (i := 20) rfl)) rfl (lv_at hl 0 rfl) ?_
  refine sk_ishr hx hb (okX3_doMeet (34, .ishr, 1) (List.mem_of_getElem? (i := 21) rfl)) ?_
  refine lv_iconst (v := iI 1) hx hb (okX3_doMeet (35, .iconst 1, 1) (List.mem_of_getElem? (i := 22) rfl)) rfl ?_
  refine sk_iand hx hb (okX3_doMeet (36, .iand, 1) (List.mem_of_getElem? (i := 23) rfl)) ?_
  refine lv_iconst (v := iI 1) hx hb (okX3_doMeet (37, .iconst 1, 1) (List.mem_of_getElem? (i := 24) rfl)) rfl ?_
  refine sk_icmp_ne (tgt := 45) hx hb (rI_of _) (by decide) (okX3_doMeet (38, .if_icmp .ne 7, 3) (List.mem_of_getElem? (i := 25) rfl)) (by decide) (fun c38 => ?_) (fun c38 => ?_)
  · have hM := hM.1 c38
    refine lv_iconst (v := iI 0) hx hb (okX3_doMeet (45, .iconst 0, 1) (List.mem_of_getElem? (i := 28) rfl)) rfl ?_
    exact sk_zret hx hb hr0 hlocks hK hw (Or.inl rfl) hM (okX3_doMeet (46, .ireturn, 1) (List.mem_of_getElem? (i := 29) rfl))
  · have hM := hM.2 c38
    refine lv_iconst (v := iI 1) hx hb (okX3_doMeet (41, .iconst 1, 1) (List.mem_of_getElem? (i := 26) rfl)) rfl ?_
    refine lv_goto (tgt := 46) hx hb (okX3_doMeet (42, .goto 4, 3) (List.mem_of_getElem? (i := 27) rfl)) (by decide) ?_
    exact sk_zret hx hb hr0 hlocks hK hw (Or.inr rfl) hM (okX3_doMeet (46, .ireturn, 1) (List.mem_of_getElem? (i := 29) rfl))
def rmX3_doOthersFit : Room := { frames := 2, cells := 0, slots := 0, locals := 108 }
set_option maxHeartbeats 4000000 in
set_option maxRecDepth 100000 in
theorem c_Parting_doOthersFit (l : Launch) (G : sk_G) {Q : Int → sk_S → Prop} {I : sk_S} (hM : M_Parting_doOthersFit Q I) : Met l yX3_doOthersFit wsX3_doOthersFit rmX3_doOthersFit (va_Pc [.ref (sk_ad G 47)] (sk_U G 198 sk_t I)) (sk_Qz G 198 sk_t Q) 0 0 (sk_A G) := by
  refine Met.ofW (cc := cX3_doOthersFit) (maxL := 3) (ret := (some .boolean)) (by decide) rfl ?_
  intro p e s m args below meth c s₁ B hml hv
  obtain ⟨rfl, hU, hK⟩ := hv
  have hx := B.exec
  have hb := B.bytes
  have hr0 := B.returns
  have hts := atoms_spec (ws := wsX3_doOthersFit) B.pre
  have hown : s.vm.findClass RX3 = some m.cls := findClass_of_methodNamed B.named
  have hlocks := B.notSynchronized
  have S : CallFix p m c cX3_doOthersFit 3 s ([.ref (sk_ad G 47)].toArray) wsX3_doOthersFit RX3 := ⟨hx, hb, hml, hown, hts⟩
  have hL0 := hts (.fieldLink RX3 30 "SkyLights$Parting" "free" "I") (by decide +kernel)
  have hL1 := hts (.fieldLink RX3 26 "SkyLights$Parting" "size" "I") (by decide +kernel)
  have hI3 : ∀ w ∈ u_ws RX3 TX3 6, w ∈ wsX3_doOthersFit := by decide +kernel
  have hw : sk_W G 198 sk_t I s s.heap [] := ⟨hU, va_S.rf⟩
  have hl := lv_entry ([.ref (sk_ad G 47)]) (n := 3) (Nat.le_of_ble_eq_true rfl)
  rw [lg_entry_eq]
  generalize (lg_sl ([.ref (sk_ad G 47)]) ++ List.replicate (3 - (lg_sl ([.ref (sk_ad G 47)])).length) Slot.unset).toArray = ls at hl ⊢
  have hl : lv_has ls 3 [(0, .ref (sk_ad G 47))] := hl
  suffices hgo : ∀ (H : Heap) (locs : List Loc), sk_W G 198 sk_t I s H locs → W p l e (headSpec wsX3_doOthersFit rmX3_doOthersFit).room s m ([.ref (sk_ad G 47)].toArray) below meth c H locs 0 0 (MQ below (sk_Qz G 198 sk_t Q) ([.ref (sk_ad G 47)].toArray) s 0 0 (sk_A G)) (F0 m 0 ls []) from hgo _ _ hw
  have hJ_5 : ∀ (v1 : Int) (I : sk_S), rI v1 → L_Parting_doOthersFit_5 Q v1 I → ∀ (H : Heap) (locs : List Loc) (ls : Array Slot), sk_W G 198 sk_t I s H locs → lv_has ls 3 [(0, .ref (sk_ad G 47)), (1, .int (iI v1))] → W p l e (headSpec wsX3_doOthersFit rmX3_doOthersFit).room s m ([.ref (sk_ad G 47)].toArray) below meth c H locs 0 0 (MQ below (sk_Qz G 198 sk_t Q) ([.ref (sk_ad G 47)].toArray) s 0 0 (sk_A G)) (F0 m 5 ls []) := by
    intro v1 I hr_v1 hM H locs ls hw hl
    unfold L_Parting_doOthersFit_5 at hM
    obtain ⟨X_5, hX_5⟩ : ∃ X : Int → sk_S → Prop, ∀ (v1 : Int) (I : sk_S), X v1 I ↔ (rI v1 → ∀ (H : Heap) (locs : List Loc) (ls : Array Slot), sk_W G 198 sk_t I s H locs → lv_has ls 3 [(0, .ref (sk_ad G 47)), (1, .int (iI v1))] → W p l e (headSpec wsX3_doOthersFit rmX3_doOthersFit).room s m ([.ref (sk_ad G 47)].toArray) below meth c H locs 0 0 (MQ below (sk_Qz G 198 sk_t Q) ([.ref (sk_ad G 47)].toArray) s 0 0 (sk_A G)) (F0 m 5 ls [])) := ⟨_, fun _ _ => Iff.rfl⟩
    have hJ_42 : ∀ (v1 : Int) (I : sk_S), rI v1 → J_Parting_doOthersFit_42 v1 Q X_5 I → ∀ (H : Heap) (locs : List Loc) (ls : Array Slot), sk_W G 198 sk_t I s H locs → lv_has ls 3 [(0, .ref (sk_ad G 47)), (1, .int (iI v1))] → W p l e (headSpec wsX3_doOthersFit rmX3_doOthersFit).room s m ([.ref (sk_ad G 47)].toArray) below meth c H locs 0 0 (MQ below (sk_Qz G 198 sk_t Q) ([.ref (sk_ad G 47)].toArray) s 0 0 (sk_A G)) (F0 m 42 ls []) := by
      intro v1 I hr_v1 hM H locs ls hw hl
      unfold J_Parting_doOthersFit_42 at hM
      obtain ⟨hr6, hM⟩ := hM
      obtain ⟨v1_42, ev1_42⟩ : ∃ y : Int, y = v1 + 1 := ⟨_, rfl⟩
      have hM := hM v1_42 ev1_42
      have hr_v1_42 : rI v1_42 := by rw [ev1_42]; exact hr6
      refine lv_iinc (v := iI v1_42) (lv' := [(1, .int (iI v1_42)), (0, .ref (sk_ad G 47))]) hx hb (okX3_doOthersFit (42, .iinc 1 1, 3) (List.mem_of_getElem? (i := 24) rfl)) hl (k := 1) rfl (by rw [ev1_42]; exact iI_add _ _) (by decide) rfl (fun ls hl => ?_)
      refine lv_goto (tgt := 5) hx hb (okX3_doOthersFit (45, .goto (-40), 3) (List.mem_of_getElem? (i := 25) rfl)) (by decide) ?_
      exact (hX_5 v1_42 I).1 hM hr_v1_42 H locs ls hw (lv_sub hl [1, 0] rfl)
    have hJ_17 : ∀ (v1 v2 : Int) (I : sk_S), rI v1 → rI v2 → L_Parting_doOthersFit_17 v1 Q X_5 v2 I → ∀ (H : Heap) (locs : List Loc) (ls : Array Slot), sk_W G 198 sk_t I s H locs → lv_has ls 3 [(0, .ref (sk_ad G 47)), (1, .int (iI v1)), (2, .int (iI v2))] → W p l e (headSpec wsX3_doOthersFit rmX3_doOthersFit).room s m ([.ref (sk_ad G 47)].toArray) below meth c H locs 0 0 (MQ below (sk_Qz G 198 sk_t Q) ([.ref (sk_ad G 47)].toArray) s 0 0 (sk_A G)) (F0 m 17 ls []) := by
      intro v1 v2 I hr_v1 hr_v2 hM H locs ls hw hl
      unfold L_Parting_doOthersFit_17 at hM
      obtain ⟨X_17, hX_17⟩ : ∃ X : Int → sk_S → Prop, ∀ (v2 : Int) (I : sk_S), X v2 I ↔ (rI v2 → ∀ (H : Heap) (locs : List Loc) (ls : Array Slot), sk_W G 198 sk_t I s H locs → lv_has ls 3 [(0, .ref (sk_ad G 47)), (1, .int (iI v1)), (2, .int (iI v2))] → W p l e (headSpec wsX3_doOthersFit rmX3_doOthersFit).room s m ([.ref (sk_ad G 47)].toArray) below meth c H locs 0 0 (MQ below (sk_Qz G 198 sk_t Q) ([.ref (sk_ad G 47)].toArray) s 0 0 (sk_A G)) (F0 m 17 ls [])) := ⟨_, fun _ _ => Iff.rfl⟩
      refine (hX_17 v2 I).1 (hM X_17 (fun v2 I hM => (hX_17 v2 I).2 (fun hr_v2 H locs ls hw hl => ?_))) hr_v2 H locs ls hw hl
      refine lv_iload_n hx hb (okX3_doOthersFit (17, .iload_n 2, 1) (List.mem_of_getElem? (i := 11) rfl)) rfl (lv_at hl 2 rfl) ?_
      refine lv_aload_n hx hb (okX3_doOthersFit (18, .aload_n 0, 1) (List.mem_of_getElem? (i := 12) rfl)) rfl (lv_at hl 0 rfl) ?_
      have hr4 := hw.1.2.2 47 3
      refine sk_geti S hK hw kdn_47 (kd_in kdn_47) (C := RX3) (T := TX3) (N := 6) rfl hI3 3 ⟨by decide, rfl, by decide, rfl⟩ rfl (k' := 3) rfl hL1 (okX3_doOthersFit (19, .getfield 26, 3) (List.mem_of_getElem? (i := 13) rfl)) ?_
      refine sk_icmp_ge (tgt := 42) hx hb hr_v2 hr4 (okX3_doOthersFit (22, .if_icmp .ge 20, 3) (List.mem_of_getElem? (i := 14) rfl)) (by decide) (fun c22 => ?_) (fun c22 => ?_)
      · have hM := hM.1 c22
        exact hJ_42 v1 I hr_v1 hM H locs ls hw (lv_sub hl [0, 1] rfl)
      · have hM := hM.2 c22
        refine lv_aload_n hx hb (okX3_doOthersFit (25, .aload_n 0, 1) (List.mem_of_getElem? (i := 15) rfl)) rfl (lv_at hl 0 rfl) ?_
        refine lv_iload_n hx hb (okX3_doOthersFit (26, .iload_n 1, 1) (List.mem_of_getElem? (i := 16) rfl)) rfl (lv_at hl 1 rfl) ?_
        refine lv_iload_n hx hb (okX3_doOthersFit (27, .iload_n 2, 1) (List.mem_of_getElem? (i := 17) rfl)) rfl (lv_at hl 2 rfl) ?_
        refine sk_ci (sk_runV (a := 47) (C := RX3) (As := [.int (iI v1), .int (iI v2)]) (rest := []) S (c_Parting_doMeet l G hr_v1 hr_v2 hM) sk_blind gX3_doOthersFit_X3_doMeet rfl hdX3_doMeet ⟨⟨rfl, rfl⟩, Nat.le_of_ble_eq_true rfl, Nat.le_of_ble_eq_true rfl⟩ (sk_recv hK hw kdn_47 (kd_in kdn_47) (by decide) rfl) (sk_pre hK hw) rfl hl.1 rfl (Nat.le_of_ble_eq_true rfl) (okX3_doOthersFit (28, .invokevirtual 74, 3) (List.mem_of_getElem? (i := 18) rfl)) ⟨Nat.zero_le _, Nat.zero_le _⟩) hw (fun r_28 I_28 H locs hr_r_28 hM hw => ?_)
        obtain ⟨hb_r_28, hM⟩ := hM
        refine sk_if_eq (tgt := 36) hx hb hr_r_28 (okX3_doOthersFit (31, .ifCond .eq 5, 3) (List.mem_of_getElem? (i := 19) rfl)) (by decide) (fun c31 => ?_) (fun c31 => ?_)
        · have hM := hM.1 c31
          obtain ⟨hr5, hM⟩ := hM
          obtain ⟨v2_36, ev2_36⟩ : ∃ y : Int, y = v2 + 1 := ⟨_, rfl⟩
          have hM := hM v2_36 ev2_36
          have hr_v2_36 : rI v2_36 := by rw [ev2_36]; exact hr5
          refine lv_iinc (v := iI v2_36) (lv' := [(2, .int (iI v2_36)), (0, .ref (sk_ad G 47)), (1, .int (iI v1))]) hx hb (okX3_doOthersFit (36, .iinc 2 1, 3) (List.mem_of_getElem? (i := 22) rfl)) hl (k := 2) rfl (by rw [ev2_36]; exact iI_add _ _) (by decide) rfl (fun ls hl => ?_)
          refine lv_goto (tgt := 17) hx hb (okX3_doOthersFit (39, .goto (-22), 3) (List.mem_of_getElem? (i := 23) rfl)) (by decide) ?_
          exact (hX_17 v2_36 I_28).1 hM hr_v2_36 H locs ls hw (lv_sub hl [1, 2, 0] rfl)
        · have hM := hM.2 c31
          refine lv_iconst (v := iI 0) hx hb (okX3_doOthersFit (34, .iconst 0, 1) (List.mem_of_getElem? (i := 20) rfl)) rfl ?_
          exact sk_zret hx hb hr0 hlocks hK hw (Or.inl rfl) hM (okX3_doOthersFit (35, .ireturn, 1) (List.mem_of_getElem? (i := 21) rfl))
    refine (hX_5 v1 I).1 (hM X_5 (fun v1 I hM => (hX_5 v1 I).2 (fun hr_v1 H locs ls hw hl => ?_))) hr_v1 H locs ls hw hl
    refine lv_iload_n hx hb (okX3_doOthersFit (5, .iload_n 1, 1) (List.mem_of_getElem? (i := 3) rfl)) rfl (lv_at hl 1 rfl) ?_
    refine lv_aload_n hx hb (okX3_doOthersFit (6, .aload_n 0, 1) (List.mem_of_getElem? (i := 4) rfl)) rfl (lv_at hl 0 rfl) ?_
    have hr2 := hw.1.2.2 47 3
    refine sk_geti S hK hw kdn_47 (kd_in kdn_47) (C := RX3) (T := TX3) (N := 6) rfl hI3 3 ⟨by decide, rfl, by decide, rfl⟩ rfl (k' := 3) rfl hL1 (okX3_doOthersFit (7, .getfield 26, 3) (List.mem_of_getElem? (i := 5) rfl)) ?_
    refine sk_icmp_ge (tgt := 48) hx hb hr_v1 hr2 (okX3_doOthersFit (10, .if_icmp .ge 38, 3) (List.mem_of_getElem? (i := 6) rfl)) (by decide) (fun c10 => ?_) (fun c10 => ?_)
    · have hM := hM.1 c10
      refine lv_iconst (v := iI 1) hx hb (okX3_doOthersFit (48, .iconst 1, 1) (List.mem_of_getElem? (i := 26) rfl)) rfl ?_
      exact sk_zret hx hb hr0 hlocks hK hw (Or.inr rfl) hM (okX3_doOthersFit (49, .ireturn, 1) (List.mem_of_getElem? (i := 27) rfl))
    · have hM := hM.2 c10
      refine lv_iload_n hx hb (okX3_doOthersFit (13, .iload_n 1, 1) (List.mem_of_getElem? (i := 7) rfl)) rfl (lv_at hl 1 rfl) ?_
      refine lv_iconst (v := iI 1) hx hb (okX3_doOthersFit (14, .iconst 1, 1) (List.mem_of_getElem? (i := 8) rfl)) rfl ?_
      refine sk_iadd hx hb (okX3_doOthersFit (15, .iadd, 1) (List.mem_of_getElem? (i := 9) rfl)) ?_
      obtain ⟨hr3, hM⟩ := hM
      refine sk_nm (fun v2_16 ev2_16 => ?_)
      have hM := hM v2_16 ev2_16
      have hr_v2_16 : rI v2_16 := by rw [ev2_16]; exact hr3
      refine lv_istore_n (lv' := [(2, .int (iI v2_16)), (0, .ref (sk_ad G 47)), (1, .int (iI v1))]) hx hb (okX3_doOthersFit (16, .istore_n 2, 1) (List.mem_of_getElem? (i := 10) rfl)) rfl hl (by decide) rfl (fun ls hl => ?_)
      exact hJ_17 v1 v2_16 I hr_v1 hr_v2_16 hM H locs ls hw (lv_sub hl [1, 2, 0] rfl)
  unfold M_Parting_doOthersFit at hM
  intro H locs hw
  refine lv_aload_n hx hb (okX3_doOthersFit (0, .aload_n 0, 1) (List.mem_of_getElem? (i := 0) rfl)) rfl (lv_at hl 0 rfl) ?_
  have hr1 := hw.1.2.2 47 4
  refine sk_geti S hK hw kdn_47 (kd_in kdn_47) (C := RX3) (T := TX3) (N := 6) rfl hI3 4 ⟨by decide, rfl, by decide, rfl⟩ rfl (k' := 4) rfl hL0 (okX3_doOthersFit (1, .getfield 30, 3) (List.mem_of_getElem? (i := 1) rfl)) ?_
  refine sk_nm (fun v1_4 ev1_4 => ?_)
  have hM := hM v1_4 ev1_4
  have hr_v1_4 : rI v1_4 := by rw [ev1_4]; exact hr1
  refine lv_istore_n (lv' := [(1, .int (iI v1_4)), (0, .ref (sk_ad G 47))]) hx hb (okX3_doOthersFit (4, .istore_n 1, 1) (List.mem_of_getElem? (i := 2) rfl)) rfl hl (by decide) rfl (fun ls hl => ?_)
  exact hJ_5 v1_4 I hr_v1_4 hM H locs ls hw (lv_sub hl [1, 0] rfl)
def rmX3_doesFit : Room := { frames := 2, cells := 0, slots := 0, locals := 108 }
set_option maxHeartbeats 4000000 in
set_option maxRecDepth 100000 in
theorem c_Parting_doesFit (l : Launch) (G : sk_G) {p1 : Int} (hr_p1 : rI p1) {Q : Int → sk_S → Prop} {I : sk_S} (hM : M_Parting_doesFit p1 Q I) : Met l yX3_doesFit wsX3_doesFit rmX3_doesFit (va_Pc [.ref (sk_ad G 47), .int (iI p1)] (sk_U G 198 sk_t I)) (sk_Qz G 198 sk_t Q) 0 0 (sk_A G) := by
  refine Met.ofW (cc := cX3_doesFit) (maxL := 3) (ret := (some .boolean)) (by decide) rfl ?_
  intro p e s m args below meth c s₁ B hml hv
  obtain ⟨rfl, hU, hK⟩ := hv
  have hx := B.exec
  have hb := B.bytes
  have hr0 := B.returns
  have hts := atoms_spec (ws := wsX3_doesFit) B.pre
  have hown : s.vm.findClass RX3 = some m.cls := findClass_of_methodNamed B.named
  have hlocks := B.notSynchronized
  have S : CallFix p m c cX3_doesFit 3 s ([.ref (sk_ad G 47), .int (iI p1)].toArray) wsX3_doesFit RX3 := ⟨hx, hb, hml, hown, hts⟩
  have hL0 := hts (.fieldLink RX3 30 "SkyLights$Parting" "free" "I") (by decide +kernel)
  have hL1 := hts (.fieldLink RX3 26 "SkyLights$Parting" "size" "I") (by decide +kernel)
  have hI3 : ∀ w ∈ u_ws RX3 TX3 6, w ∈ wsX3_doesFit := by decide +kernel
  have hw : sk_W G 198 sk_t I s s.heap [] := ⟨hU, va_S.rf⟩
  have hl := lv_entry ([.ref (sk_ad G 47), .int (iI p1)]) (n := 3) (Nat.le_of_ble_eq_true rfl)
  rw [lg_entry_eq]
  generalize (lg_sl ([.ref (sk_ad G 47), .int (iI p1)]) ++ List.replicate (3 - (lg_sl ([.ref (sk_ad G 47), .int (iI p1)])).length) Slot.unset).toArray = ls at hl ⊢
  have hl : lv_has ls 3 [(0, .ref (sk_ad G 47)), (1, .int (iI p1))] := hl
  suffices hgo : ∀ (H : Heap) (locs : List Loc), sk_W G 198 sk_t I s H locs → W p l e (headSpec wsX3_doesFit rmX3_doesFit).room s m ([.ref (sk_ad G 47), .int (iI p1)].toArray) below meth c H locs 0 0 (MQ below (sk_Qz G 198 sk_t Q) ([.ref (sk_ad G 47), .int (iI p1)].toArray) s 0 0 (sk_A G)) (F0 m 0 ls []) from hgo _ _ hw
  have hJ_29 : ∀ (v1 v2 : Int) (I : sk_S), rI v1 → rI v2 → L_Parting_doesFit_29 v1 Q v2 I → ∀ (H : Heap) (locs : List Loc) (ls : Array Slot), sk_W G 198 sk_t I s H locs → lv_has ls 3 [(0, .ref (sk_ad G 47)), (1, .int (iI v1)), (2, .int (iI v2))] → W p l e (headSpec wsX3_doesFit rmX3_doesFit).room s m ([.ref (sk_ad G 47), .int (iI p1)].toArray) below meth c H locs 0 0 (MQ below (sk_Qz G 198 sk_t Q) ([.ref (sk_ad G 47), .int (iI p1)].toArray) s 0 0 (sk_A G)) (F0 m 29 ls []) := by
    intro v1 v2 I hr_v1 hr_v2 hM H locs ls hw hl
    unfold L_Parting_doesFit_29 at hM
    obtain ⟨X_29, hX_29⟩ : ∃ X : Int → sk_S → Prop, ∀ (v2 : Int) (I : sk_S), X v2 I ↔ (rI v2 → ∀ (H : Heap) (locs : List Loc) (ls : Array Slot), sk_W G 198 sk_t I s H locs → lv_has ls 3 [(0, .ref (sk_ad G 47)), (1, .int (iI v1)), (2, .int (iI v2))] → W p l e (headSpec wsX3_doesFit rmX3_doesFit).room s m ([.ref (sk_ad G 47), .int (iI p1)].toArray) below meth c H locs 0 0 (MQ below (sk_Qz G 198 sk_t Q) ([.ref (sk_ad G 47), .int (iI p1)].toArray) s 0 0 (sk_A G)) (F0 m 29 ls [])) := ⟨_, fun _ _ => Iff.rfl⟩
    refine (hX_29 v2 I).1 (hM X_29 (fun v2 I hM => (hX_29 v2 I).2 (fun hr_v2 H locs ls hw hl => ?_))) hr_v2 H locs ls hw hl
    refine lv_iload_n hx hb (okX3_doesFit (29, .iload_n 2, 1) (List.mem_of_getElem? (i := 17) rfl)) rfl (lv_at hl 2 rfl) ?_
    refine lv_aload_n hx hb (okX3_doesFit (30, .aload_n 0, 1) (List.mem_of_getElem? (i := 18) rfl)) rfl (lv_at hl 0 rfl) ?_
    have hr3 := hw.1.2.2 47 3
    refine sk_geti S hK hw kdn_47 (kd_in kdn_47) (C := RX3) (T := TX3) (N := 6) rfl hI3 3 ⟨by decide, rfl, by decide, rfl⟩ rfl (k' := 3) rfl hL1 (okX3_doesFit (31, .getfield 26, 3) (List.mem_of_getElem? (i := 19) rfl)) ?_
    refine sk_icmp_ge (tgt := 54) hx hb hr_v2 hr3 (okX3_doesFit (34, .if_icmp .ge 20, 3) (List.mem_of_getElem? (i := 20) rfl)) (by decide) (fun c34 => ?_) (fun c34 => ?_)
    · have hM := hM.1 c34
      refine lv_iconst (v := iI 1) hx hb (okX3_doesFit (54, .iconst 1, 1) (List.mem_of_getElem? (i := 30) rfl)) rfl ?_
      exact sk_zret hx hb hr0 hlocks hK hw (Or.inr rfl) hM (okX3_doesFit (55, .ireturn, 1) (List.mem_of_getElem? (i := 31) rfl))
    · have hM := hM.2 c34
      refine lv_aload_n hx hb (okX3_doesFit (37, .aload_n 0, 1) (List.mem_of_getElem? (i := 21) rfl)) rfl (lv_at hl 0 rfl) ?_
      refine lv_iload_n hx hb (okX3_doesFit (38, .iload_n 1, 1) (List.mem_of_getElem? (i := 22) rfl)) rfl (lv_at hl 1 rfl) ?_
      refine lv_iload_n hx hb (okX3_doesFit (39, .iload_n 2, 1) (List.mem_of_getElem? (i := 23) rfl)) rfl (lv_at hl 2 rfl) ?_
      refine sk_ci (sk_runV (a := 47) (C := RX3) (As := [.int (iI v1), .int (iI v2)]) (rest := []) S (c_Parting_doMeet l G hr_v1 hr_v2 hM) sk_blind gX3_doesFit_X3_doMeet rfl hdX3_doMeet ⟨⟨rfl, rfl⟩, Nat.le_of_ble_eq_true rfl, Nat.le_of_ble_eq_true rfl⟩ (sk_recv hK hw kdn_47 (kd_in kdn_47) (by decide) rfl) (sk_pre hK hw) rfl hl.1 rfl (Nat.le_of_ble_eq_true rfl) (okX3_doesFit (40, .invokevirtual 74, 3) (List.mem_of_getElem? (i := 24) rfl)) ⟨Nat.zero_le _, Nat.zero_le _⟩) hw (fun r_40 I_40 H locs hr_r_40 hM hw => ?_)
      obtain ⟨hb_r_40, hM⟩ := hM
      refine sk_if_eq (tgt := 48) hx hb hr_r_40 (okX3_doesFit (43, .ifCond .eq 5, 3) (List.mem_of_getElem? (i := 25) rfl)) (by decide) (fun c43 => ?_) (fun c43 => ?_)
      · have hM := hM.1 c43
        obtain ⟨hr4, hM⟩ := hM
        obtain ⟨v2_48, ev2_48⟩ : ∃ y : Int, y = v2 + 1 := ⟨_, rfl⟩
        have hM := hM v2_48 ev2_48
        have hr_v2_48 : rI v2_48 := by rw [ev2_48]; exact hr4
        refine lv_iinc (v := iI v2_48) (lv' := [(2, .int (iI v2_48)), (0, .ref (sk_ad G 47)), (1, .int (iI v1))]) hx hb (okX3_doesFit (48, .iinc 2 1, 3) (List.mem_of_getElem? (i := 28) rfl)) hl (k := 2) rfl (by rw [ev2_48]; exact iI_add _ _) (by decide) rfl (fun ls hl => ?_)
        refine lv_goto (tgt := 29) hx hb (okX3_doesFit (51, .goto (-22), 3) (List.mem_of_getElem? (i := 29) rfl)) (by decide) ?_
        exact (hX_29 v2_48 I_40).1 hM hr_v2_48 H locs ls hw (lv_sub hl [1, 2, 0] rfl)
      · have hM := hM.2 c43
        refine lv_iconst (v := iI 0) hx hb (okX3_doesFit (46, .iconst 0, 1) (List.mem_of_getElem? (i := 26) rfl)) rfl ?_
        exact sk_zret hx hb hr0 hlocks hK hw (Or.inl rfl) hM (okX3_doesFit (47, .ireturn, 1) (List.mem_of_getElem? (i := 27) rfl))
  have hJ_24 : ∀ (v1 : Int) (I : sk_S), rI v1 → J_Parting_doesFit_24 v1 Q I → ∀ (H : Heap) (locs : List Loc) (ls : Array Slot), sk_W G 198 sk_t I s H locs → lv_has ls 3 [(0, .ref (sk_ad G 47)), (1, .int (iI v1))] → W p l e (headSpec wsX3_doesFit rmX3_doesFit).room s m ([.ref (sk_ad G 47), .int (iI p1)].toArray) below meth c H locs 0 0 (MQ below (sk_Qz G 198 sk_t Q) ([.ref (sk_ad G 47), .int (iI p1)].toArray) s 0 0 (sk_A G)) (F0 m 24 ls []) := by
    intro v1 I hr_v1 hM H locs ls hw hl
    unfold J_Parting_doesFit_24 at hM
    refine lv_aload_n hx hb (okX3_doesFit (24, .aload_n 0, 1) (List.mem_of_getElem? (i := 14) rfl)) rfl (lv_at hl 0 rfl) ?_
    have hr2 := hw.1.2.2 47 4
    refine sk_geti S hK hw kdn_47 (kd_in kdn_47) (C := RX3) (T := TX3) (N := 6) rfl hI3 4 ⟨by decide, rfl, by decide, rfl⟩ rfl (k' := 4) rfl hL0 (okX3_doesFit (25, .getfield 30, 3) (List.mem_of_getElem? (i := 15) rfl)) ?_
    refine sk_nm (fun v2_28 ev2_28 => ?_)
    have hM := hM v2_28 ev2_28
    have hr_v2_28 : rI v2_28 := by rw [ev2_28]; exact hr2
    refine lv_istore_n (lv' := [(2, .int (iI v2_28)), (0, .ref (sk_ad G 47)), (1, .int (iI v1))]) hx hb (okX3_doesFit (28, .istore_n 2, 1) (List.mem_of_getElem? (i := 16) rfl)) rfl hl (by decide) rfl (fun ls hl => ?_)
    exact hJ_29 v1 v2_28 I hr_v1 hr_v2_28 hM H locs ls hw (lv_sub hl [1, 2, 0] rfl)
  have hJ_2 : ∀ (v1 v2 : Int) (I : sk_S), rI v1 → rI v2 → L_Parting_doesFit_2 v1 Q v2 I → ∀ (H : Heap) (locs : List Loc) (ls : Array Slot), sk_W G 198 sk_t I s H locs → lv_has ls 3 [(0, .ref (sk_ad G 47)), (1, .int (iI v1)), (2, .int (iI v2))] → W p l e (headSpec wsX3_doesFit rmX3_doesFit).room s m ([.ref (sk_ad G 47), .int (iI p1)].toArray) below meth c H locs 0 0 (MQ below (sk_Qz G 198 sk_t Q) ([.ref (sk_ad G 47), .int (iI p1)].toArray) s 0 0 (sk_A G)) (F0 m 2 ls []) := by
    intro v1 v2 I hr_v1 hr_v2 hM H locs ls hw hl
    unfold L_Parting_doesFit_2 at hM
    obtain ⟨X_2, hX_2⟩ : ∃ X : Int → sk_S → Prop, ∀ (v2 : Int) (I : sk_S), X v2 I ↔ (rI v2 → ∀ (H : Heap) (locs : List Loc) (ls : Array Slot), sk_W G 198 sk_t I s H locs → lv_has ls 3 [(0, .ref (sk_ad G 47)), (1, .int (iI v1)), (2, .int (iI v2))] → W p l e (headSpec wsX3_doesFit rmX3_doesFit).room s m ([.ref (sk_ad G 47), .int (iI p1)].toArray) below meth c H locs 0 0 (MQ below (sk_Qz G 198 sk_t Q) ([.ref (sk_ad G 47), .int (iI p1)].toArray) s 0 0 (sk_A G)) (F0 m 2 ls [])) := ⟨_, fun _ _ => Iff.rfl⟩
    refine (hX_2 v2 I).1 (hM X_2 (fun v2 I hM => (hX_2 v2 I).2 (fun hr_v2 H locs ls hw hl => ?_))) hr_v2 H locs ls hw hl
    refine lv_iload_n hx hb (okX3_doesFit (2, .iload_n 2, 1) (List.mem_of_getElem? (i := 2) rfl)) rfl (lv_at hl 2 rfl) ?_
    refine lv_iload_n hx hb (okX3_doesFit (3, .iload_n 1, 1) (List.mem_of_getElem? (i := 3) rfl)) rfl (lv_at hl 1 rfl) ?_
    refine sk_icmp_ge (tgt := 24) hx hb hr_v2 hr_v1 (okX3_doesFit (4, .if_icmp .ge 20, 3) (List.mem_of_getElem? (i := 4) rfl)) (by decide) (fun c4 => ?_) (fun c4 => ?_)
    · have hM := hM.1 c4
      exact hJ_24 v1 I hr_v1 hM H locs ls hw (lv_sub hl [0, 1] rfl)
    · have hM := hM.2 c4
      refine lv_aload_n hx hb (okX3_doesFit (7, .aload_n 0, 1) (List.mem_of_getElem? (i := 5) rfl)) rfl (lv_at hl 0 rfl) ?_
      refine lv_iload_n hx hb (okX3_doesFit (8, .iload_n 2, 1) (List.mem_of_getElem? (i := 6) rfl)) rfl (lv_at hl 2 rfl) ?_
      refine lv_iload_n hx hb (okX3_doesFit (9, .iload_n 1, 1) (List.mem_of_getElem? (i := 7) rfl)) rfl (lv_at hl 1 rfl) ?_
      refine sk_ci (sk_runV (a := 47) (C := RX3) (As := [.int (iI v2), .int (iI v1)]) (rest := []) S (c_Parting_doMeet l G hr_v2 hr_v1 hM) sk_blind gX3_doesFit_X3_doMeet rfl hdX3_doMeet ⟨⟨rfl, rfl⟩, Nat.le_of_ble_eq_true rfl, Nat.le_of_ble_eq_true rfl⟩ (sk_recv hK hw kdn_47 (kd_in kdn_47) (by decide) rfl) (sk_pre hK hw) rfl hl.1 rfl (Nat.le_of_ble_eq_true rfl) (okX3_doesFit (10, .invokevirtual 74, 3) (List.mem_of_getElem? (i := 8) rfl)) ⟨Nat.zero_le _, Nat.zero_le _⟩) hw (fun r_10 I_10 H locs hr_r_10 hM hw => ?_)
      obtain ⟨hb_r_10, hM⟩ := hM
      refine sk_if_eq (tgt := 18) hx hb hr_r_10 (okX3_doesFit (13, .ifCond .eq 5, 3) (List.mem_of_getElem? (i := 9) rfl)) (by decide) (fun c13 => ?_) (fun c13 => ?_)
      · have hM := hM.1 c13
        obtain ⟨hr1, hM⟩ := hM
        obtain ⟨v2_18, ev2_18⟩ : ∃ y : Int, y = v2 + 1 := ⟨_, rfl⟩
        have hM := hM v2_18 ev2_18
        have hr_v2_18 : rI v2_18 := by rw [ev2_18]; exact hr1
        refine lv_iinc (v := iI v2_18) (lv' := [(2, .int (iI v2_18)), (0, .ref (sk_ad G 47)), (1, .int (iI v1))]) hx hb (okX3_doesFit (18, .iinc 2 1, 3) (List.mem_of_getElem? (i := 12) rfl)) hl (k := 2) rfl (by rw [ev2_18]; exact iI_add _ _) (by decide) rfl (fun ls hl => ?_)
        refine lv_goto (tgt := 2) hx hb (okX3_doesFit (21, .goto (-19), 3) (List.mem_of_getElem? (i := 13) rfl)) (by decide) ?_
        exact (hX_2 v2_18 I_10).1 hM hr_v2_18 H locs ls hw (lv_sub hl [1, 2, 0] rfl)
      · have hM := hM.2 c13
        refine lv_iconst (v := iI 0) hx hb (okX3_doesFit (16, .iconst 0, 1) (List.mem_of_getElem? (i := 10) rfl)) rfl ?_
        exact sk_zret hx hb hr0 hlocks hK hw (Or.inl rfl) hM (okX3_doesFit (17, .ireturn, 1) (List.mem_of_getElem? (i := 11) rfl))
  unfold M_Parting_doesFit at hM
  intro H locs hw
  refine lv_iconst (v := iI 0) hx hb (okX3_doesFit (0, .iconst 0, 1) (List.mem_of_getElem? (i := 0) rfl)) rfl ?_
  refine lv_istore_n (lv' := [(2, .int (iI 0)), (0, .ref (sk_ad G 47)), (1, .int (iI p1))]) hx hb (okX3_doesFit (1, .istore_n 2, 1) (List.mem_of_getElem? (i := 1) rfl)) rfl hl (by decide) rfl (fun ls hl => ?_)
  exact hJ_2 p1 0 I hr_p1 (by decide) hM H locs ls hw (lv_sub hl [1, 2, 0] rfl)
def rmX3_keepTried : Room := { frames := 1, cells := 0, slots := 0, locals := 54 }
set_option maxHeartbeats 4000000 in
set_option maxRecDepth 100000 in
theorem c_Parting_keepTried (l : Launch) (G : sk_G) {p1 : Int} (hr_p1 : rI p1) {Q : sk_S → Prop} {I : sk_S} (hM : M_Parting_keepTried p1 Q I) : Met l yX3_keepTried wsX3_keepTried rmX3_keepTried (va_Pc [.ref (sk_ad G 47), .int (iI p1)] (sk_U G 198 sk_t I)) (sk_Qv G 198 sk_t Q) 0 0 (sk_A G) := by
  refine Met.ofW (cc := cX3_keepTried) (maxL := 3) (ret := none) (by decide) rfl ?_
  intro p e s m args below meth c s₁ B hml hv
  obtain ⟨rfl, hU, hK⟩ := hv
  have hx := B.exec
  have hb := B.bytes
  have hr0 := B.returns
  have hts := atoms_spec (ws := wsX3_keepTried) B.pre
  have hown : s.vm.findClass RX3 = some m.cls := findClass_of_methodNamed B.named
  have hlocks := B.notSynchronized
  have S : CallFix p m c cX3_keepTried 3 s ([.ref (sk_ad G 47), .int (iI p1)].toArray) wsX3_keepTried RX3 := ⟨hx, hb, hml, hown, hts⟩
  have hL0 := hts (.fieldLink RX3 33 "SkyLights$Parting" "leastSum" "I") (by decide +kernel)
  have hL1 := hts (.fieldLink RX3 30 "SkyLights$Parting" "free" "I") (by decide +kernel)
  have hL2 := hts (.fieldLink RX3 23 "SkyLights$Parting" "least" "LSkyLights$Row;") (by decide +kernel)
  have hL3 := hts (.fieldLink RX3 20 "SkyLights$Parting" "tried" "LSkyLights$Row;") (by decide +kernel)
  have hI3 : ∀ w ∈ u_ws RX3 TX3 6, w ∈ wsX3_keepTried := by decide +kernel
  have hw : sk_W G 198 sk_t I s s.heap [] := ⟨hU, va_S.rf⟩
  have hl := lv_entry ([.ref (sk_ad G 47), .int (iI p1)]) (n := 3) (Nat.le_of_ble_eq_true rfl)
  rw [lg_entry_eq]
  generalize (lg_sl ([.ref (sk_ad G 47), .int (iI p1)]) ++ List.replicate (3 - (lg_sl ([.ref (sk_ad G 47), .int (iI p1)])).length) Slot.unset).toArray = ls at hl ⊢
  have hl : lv_has ls 3 [(0, .ref (sk_ad G 47)), (1, .int (iI p1))] := hl
  suffices hgo : ∀ (H : Heap) (locs : List Loc), sk_W G 198 sk_t I s H locs → W p l e (headSpec wsX3_keepTried rmX3_keepTried).room s m ([.ref (sk_ad G 47), .int (iI p1)].toArray) below meth c H locs 0 0 (MQ below (sk_Qv G 198 sk_t Q) ([.ref (sk_ad G 47), .int (iI p1)].toArray) s 0 0 (sk_A G)) (F0 m 0 ls []) from hgo _ _ hw
  have hJ_7 : ∀ (v2 : Int) (I : sk_S), rI v2 → L_Parting_keepTried_7 Q v2 I → ∀ (H : Heap) (locs : List Loc) (ls : Array Slot), sk_W G 198 sk_t I s H locs → lv_has ls 3 [(0, .ref (sk_ad G 47)), (2, .int (iI v2))] → W p l e (headSpec wsX3_keepTried rmX3_keepTried).room s m ([.ref (sk_ad G 47), .int (iI p1)].toArray) below meth c H locs 0 0 (MQ below (sk_Qv G 198 sk_t Q) ([.ref (sk_ad G 47), .int (iI p1)].toArray) s 0 0 (sk_A G)) (F0 m 7 ls []) := by
    intro v2 I hr_v2 hM H locs ls hw hl
    unfold L_Parting_keepTried_7 at hM
    obtain ⟨X_7, hX_7⟩ : ∃ X : Int → sk_S → Prop, ∀ (v2 : Int) (I : sk_S), X v2 I ↔ (rI v2 → ∀ (H : Heap) (locs : List Loc) (ls : Array Slot), sk_W G 198 sk_t I s H locs → lv_has ls 3 [(0, .ref (sk_ad G 47)), (2, .int (iI v2))] → W p l e (headSpec wsX3_keepTried rmX3_keepTried).room s m ([.ref (sk_ad G 47), .int (iI p1)].toArray) below meth c H locs 0 0 (MQ below (sk_Qv G 198 sk_t Q) ([.ref (sk_ad G 47), .int (iI p1)].toArray) s 0 0 (sk_A G)) (F0 m 7 ls [])) := ⟨_, fun _ _ => Iff.rfl⟩
    refine (hX_7 v2 I).1 (hM X_7 (fun v2 I hM => (hX_7 v2 I).2 (fun hr_v2 H locs ls hw hl => ?_))) hr_v2 H locs ls hw hl
    refine lv_iload_n hx hb (okX3_keepTried (7, .iload_n 2, 1) (List.mem_of_getElem? (i := 5) rfl)) rfl (lv_at hl 1 rfl) ?_
    refine lv_aload_n hx hb (okX3_keepTried (8, .aload_n 0, 1) (List.mem_of_getElem? (i := 6) rfl)) rfl (lv_at hl 0 rfl) ?_
    have hr1 := hw.1.2.2 47 4
    refine sk_geti S hK hw kdn_47 (kd_in kdn_47) (C := RX3) (T := TX3) (N := 6) rfl hI3 4 ⟨by decide, rfl, by decide, rfl⟩ rfl (k' := 4) rfl hL1 (okX3_keepTried (9, .getfield 30, 3) (List.mem_of_getElem? (i := 7) rfl)) ?_
    refine sk_icmp_ge (tgt := 37) hx hb hr_v2 hr1 (okX3_keepTried (12, .if_icmp .ge 25, 3) (List.mem_of_getElem? (i := 8) rfl)) (by decide) (fun c12 => ?_) (fun c12 => ?_)
    · have hM := hM.1 c12
      exact sk_vret hx hb hr0 hlocks hK hw hM (okX3_keepTried (37, .return_, 1) (List.mem_of_getElem? (i := 19) rfl))
    · have hM := hM.2 c12
      refine lv_aload_n hx hb (okX3_keepTried (15, .aload_n 0, 1) (List.mem_of_getElem? (i := 9) rfl)) rfl (lv_at hl 0 rfl) ?_
      refine sk_getr (b := 52) S hK hw kdn_47 (kd_in kdn_47) (C := RX3) (T := TX3) (N := 6) rfl hI3 2 ⟨by decide, rfl, by decide, rfl⟩ rfl (k' := 2) rfl rfl (by decide +kernel) hL2 (okX3_keepTried (16, .getfield 23, 3) (List.mem_of_getElem? (i := 10) rfl)) ?_
      refine lv_iload_n hx hb (okX3_keepTried (19, .iload_n 2, 1) (List.mem_of_getElem? (i := 11) rfl)) rfl (lv_at hl 1 rfl) ?_
      refine lv_aload_n hx hb (okX3_keepTried (20, .aload_n 0, 1) (List.mem_of_getElem? (i := 12) rfl)) rfl (lv_at hl 0 rfl) ?_
      refine sk_getr (b := 50) S hK hw kdn_47 (kd_in kdn_47) (C := RX3) (T := TX3) (N := 6) rfl hI3 1 ⟨by decide, rfl, by decide, rfl⟩ rfl (k' := 1) rfl rfl (by decide +kernel) hL3 (okX3_keepTried (21, .getfield 20, 3) (List.mem_of_getElem? (i := 13) rfl)) ?_
      refine lv_iload_n hx hb (okX3_keepTried (24, .iload_n 2, 1) (List.mem_of_getElem? (i := 14) rfl)) rfl (lv_at hl 1 rfl) ?_
      refine sk_ci (sk_runV (a := 50) (C := RX7) (As := [.int (iI v2)]) (rest := [.int (iI v2), .ref (sk_ad G 52)]) S (c_Row_at l G kdn_50 hr_v2 hM) sk_blind gX3_keepTried_X7_at rfl hdX7_at ⟨⟨rfl, rfl⟩, Nat.le_of_ble_eq_true rfl, Nat.le_of_ble_eq_true rfl⟩ (sk_recv hK hw kdn_50 (kd_in kdn_50) (by decide) rfl) (sk_pre hK hw) rfl hl.1 rfl (Nat.le_of_ble_eq_true rfl) (okX3_keepTried (25, .invokevirtual 59, 3) (List.mem_of_getElem? (i := 15) rfl)) ⟨Nat.zero_le _, Nat.zero_le _⟩) hw (fun r_25 I_25 H locs hr_r_25 hM hw => ?_)
      refine sk_cv (sk_runV (a := 52) (C := RX7) (As := [.int (iI v2), .int (iI r_25)]) (rest := []) S (c_Row_put l G kdn_52 hr_v2 hr_r_25 hM) sk_blind gX3_keepTried_X7_put rfl hdX7_put ⟨⟨rfl, rfl⟩, Nat.le_of_ble_eq_true rfl, Nat.le_of_ble_eq_true rfl⟩ (sk_recv hK hw kdn_52 (kd_in kdn_52) (by decide) rfl) (sk_pre hK hw) rfl hl.1 rfl (Nat.le_of_ble_eq_true rfl) (okX3_keepTried (28, .invokevirtual 71, 3) (List.mem_of_getElem? (i := 16) rfl)) ⟨Nat.zero_le _, Nat.zero_le _⟩) hw (fun I_28 H locs hM hw => ?_)
      obtain ⟨hr2, hM⟩ := hM
      obtain ⟨v2_31, ev2_31⟩ : ∃ y : Int, y = v2 + 1 := ⟨_, rfl⟩
      have hM := hM v2_31 ev2_31
      have hr_v2_31 : rI v2_31 := by rw [ev2_31]; exact hr2
      refine lv_iinc (v := iI v2_31) (lv' := [(2, .int (iI v2_31)), (0, .ref (sk_ad G 47))]) hx hb (okX3_keepTried (31, .iinc 2 1, 3) (List.mem_of_getElem? (i := 17) rfl)) hl (k := 1) rfl (by rw [ev2_31]; exact iI_add _ _) (by decide) rfl (fun ls hl => ?_)
      refine lv_goto (tgt := 7) hx hb (okX3_keepTried (34, .goto (-27), 3) (List.mem_of_getElem? (i := 18) rfl)) (by decide) ?_
      exact (hX_7 v2_31 I_28).1 hM hr_v2_31 H locs ls hw (lv_sub hl [1, 0] rfl)
  unfold M_Parting_keepTried at hM
  intro H locs hw
  refine lv_aload_n hx hb (okX3_keepTried (0, .aload_n 0, 1) (List.mem_of_getElem? (i := 0) rfl)) rfl (lv_at hl 0 rfl) ?_
  refine lv_iload_n hx hb (okX3_keepTried (1, .iload_n 1, 1) (List.mem_of_getElem? (i := 1) rfl)) rfl (lv_at hl 1 rfl) ?_
  refine sk_put S hK hw kdn_47 (kd_in kdn_47) (C := RX3) (T := TX3) (N := 6) rfl hI3 tyX3 tyX3_ok nmX3 5 ⟨by decide, rfl, by decide, rfl⟩ rfl rfl (k' := 5) rfl hr_p1 ⟨rfl, rfl⟩ hL0 (okX3_keepTried (2, .putfield 33, 3) (List.mem_of_getElem? (i := 2) rfl)) (fun H locs hw => ?_)
  refine lv_iconst (v := iI 0) hx hb (okX3_keepTried (5, .iconst 0, 1) (List.mem_of_getElem? (i := 3) rfl)) rfl ?_
  refine lv_istore_n (lv' := [(2, .int (iI 0)), (0, .ref (sk_ad G 47)), (1, .int (iI p1))]) hx hb (okX3_keepTried (6, .istore_n 2, 1) (List.mem_of_getElem? (i := 4) rfl)) rfl hl (by decide) rfl (fun ls hl => ?_)
  exact hJ_7 0 (up I 47 5 p1) (by decide) hM H locs ls hw (lv_sub hl [1, 0] rfl)
def rmX4_apart : Room := { frames := 1, cells := 0, slots := 0, locals := 53 }
set_option maxHeartbeats 4000000 in
set_option maxRecDepth 100000 in
theorem c_Pass_apart (l : Launch) (G : sk_G) {p0 p1 p2 p3 p4 p5 : Int} (hk_p0 : kd p0 = 4) (hr_p1 : rI p1) (hr_p2 : rI p2) (hr_p3 : rI p3) (hr_p4 : rI p4) (hr_p5 : rI p5) {Q : Int → sk_S → Prop} {I : sk_S} (hM : M_Pass_apart p0 p1 p2 p3 p4 p5 Q I) : Met l yX4_apart wsX4_apart rmX4_apart (va_Pc [.ref (sk_ad G p0), .int (iI p1), .int (iI p2), .int (iI p3), .int (iI p4), .int (iI p5)] (sk_U G 198 sk_t I)) (sk_Qi G 198 sk_t Q) 0 0 (sk_A G) := by
  refine Met.ofW (cc := cX4_apart) (maxL := 11) (ret := (some .int)) (by decide) rfl ?_
  intro p e s m args below meth c s₁ B hml hv
  obtain ⟨rfl, hU, hK⟩ := hv
  have hx := B.exec
  have hb := B.bytes
  have hr0 := B.returns
  have hts := atoms_spec (ws := wsX4_apart) B.pre
  have hown : s.vm.findClass RX4 = some m.cls := findClass_of_methodNamed B.named
  have hlocks := B.notSynchronized
  have S : CallFix p m c cX4_apart 11 s ([.ref (sk_ad G p0), .int (iI p1), .int (iI p2), .int (iI p3), .int (iI p4), .int (iI p5)].toArray) wsX4_apart RX4 := ⟨hx, hb, hml, hown, hts⟩
  have hL0 := hts (.fieldLink RX4 24 "SkyLights$Pass" "ticks" "I") (by decide +kernel)
  have hL1 := hts (.methodLink RX4 78 Lib.Math.min.name) (by decide +kernel)
  have hL2 := hts (.static Lib.Math.min.name) (by decide +kernel)
  have hL3 := hts (.initialized "java/lang/Math") (by decide +kernel)
  have hL4 := hts (.code Lib.Math.min.name Lib.Math.min.code 2 (some .int)) (by decide +kernel)
  have hL5 := hts (.methodLink RX4 83 Lib.Math.max.name) (by decide +kernel)
  have hL6 := hts (.static Lib.Math.max.name) (by decide +kernel)
  have hL7 := hts (.code Lib.Math.max.name Lib.Math.max.code 2 (some .int)) (by decide +kernel)
  have hL8 := hts (.fieldLink RX4 16 "SkyLights$Pass" "cells" "LSkyLights$Row;") (by decide +kernel)
  have hI4 : ∀ w ∈ u_ws RX4 TX4 3, w ∈ wsX4_apart := by decide +kernel
  have hw : sk_W G 198 sk_t I s s.heap [] := ⟨hU, va_S.rf⟩
  have hl := lv_entry ([.ref (sk_ad G p0), .int (iI p1), .int (iI p2), .int (iI p3), .int (iI p4), .int (iI p5)]) (n := 11) (Nat.le_of_ble_eq_true rfl)
  rw [lg_entry_eq]
  generalize (lg_sl ([.ref (sk_ad G p0), .int (iI p1), .int (iI p2), .int (iI p3), .int (iI p4), .int (iI p5)]) ++ List.replicate (11 - (lg_sl ([.ref (sk_ad G p0), .int (iI p1), .int (iI p2), .int (iI p3), .int (iI p4), .int (iI p5)])).length) Slot.unset).toArray = ls at hl ⊢
  have hl : lv_has ls 11 [(0, .ref (sk_ad G p0)), (1, .int (iI p1)), (2, .int (iI p2)), (3, .int (iI p3)), (4, .int (iI p4)), (5, .int (iI p5))] := hl
  suffices hgo : ∀ (H : Heap) (locs : List Loc), sk_W G 198 sk_t I s H locs → W p l e (headSpec wsX4_apart rmX4_apart).room s m ([.ref (sk_ad G p0), .int (iI p1), .int (iI p2), .int (iI p3), .int (iI p4), .int (iI p5)].toArray) below meth c H locs 0 0 (MQ below (sk_Qi G 198 sk_t Q) ([.ref (sk_ad G p0), .int (iI p1), .int (iI p2), .int (iI p3), .int (iI p4), .int (iI p5)].toArray) s 0 0 (sk_A G)) (F0 m 0 ls []) from hgo _ _ hw
  unfold M_Pass_apart at hM
  intro H locs hw
  refine lv_iconst (v := iI 0) hx hb (okX4_apart (0, .iconst 0, 1) (List.mem_of_getElem? (i := 0) rfl)) rfl ?_
  refine lv_aload_n hx hb (okX4_apart (1, .aload_n 0, 1) (List.mem_of_getElem? (i := 1) rfl)) rfl (lv_at hl 0 rfl) ?_
  have hr1 := hw.1.2.2 p0 2
  refine sk_geti S hK hw hk_p0 (kd_in hk_p0) (C := RX4) (T := TX4) (N := 3) rfl hI4 2 ⟨by decide, rfl, by decide, rfl⟩ rfl (k' := 2) rfl hL0 (okX4_apart (2, .getfield 24, 3) (List.mem_of_getElem? (i := 2) rfl)) ?_
  refine lv_iload hx hb (okX4_apart (5, .iload 4, 2) (List.mem_of_getElem? (i := 3) rfl)) (lv_at hl 4 rfl) ?_
  refine sk_min hx hb (hml.trans hl.1.symm) hown hL1 hL2 hL3 hL4 ⟨Nat.le_of_ble_eq_true rfl, Nat.le_of_ble_eq_true rfl, Nat.zero_le _, Nat.zero_le _⟩ hr1 hr_p4 (okX4_apart (7, .invokestatic 78, 3) (List.mem_of_getElem? (i := 4) rfl)) ?_
  refine sk_max hx hb (hml.trans hl.1.symm) hown hL5 hL6 hL3 hL7 ⟨Nat.le_of_ble_eq_true rfl, Nat.le_of_ble_eq_true rfl, Nat.zero_le _, Nat.zero_le _⟩ (by decide) (rI_imin hr1 hr_p4) (okX4_apart (10, .invokestatic 83, 3) (List.mem_of_getElem? (i := 5) rfl)) ?_
  refine sk_nm (fun v6_13 ev6_13 => ?_)
  have hM := hM v6_13 ev6_13
  have hr_v6_13 : rI v6_13 := by rw [ev6_13]; exact (rI_imax (by decide) (rI_imin hr1 hr_p4))
  refine lv_istore (lv' := [(6, .int (iI v6_13)), (0, .ref (sk_ad G p0)), (1, .int (iI p1)), (2, .int (iI p2)), (3, .int (iI p3)), (4, .int (iI p4)), (5, .int (iI p5))]) hx hb (okX4_apart (13, .istore 6, 2) (List.mem_of_getElem? (i := 6) rfl)) hl (by decide) rfl (fun ls hl => ?_)
  refine lv_iconst (v := iI 0) hx hb (okX4_apart (15, .iconst 0, 1) (List.mem_of_getElem? (i := 7) rfl)) rfl ?_
  refine lv_aload_n hx hb (okX4_apart (16, .aload_n 0, 1) (List.mem_of_getElem? (i := 8) rfl)) rfl (lv_at hl 1 rfl) ?_
  have hr2 := hw.1.2.2 p0 2
  refine sk_geti S hK hw hk_p0 (kd_in hk_p0) (C := RX4) (T := TX4) (N := 3) rfl hI4 2 ⟨by decide, rfl, by decide, rfl⟩ rfl (k' := 2) rfl hL0 (okX4_apart (17, .getfield 24, 3) (List.mem_of_getElem? (i := 9) rfl)) ?_
  refine lv_iload hx hb (okX4_apart (20, .iload 5, 2) (List.mem_of_getElem? (i := 10) rfl)) (lv_at hl 6 rfl) ?_
  refine sk_min hx hb (hml.trans hl.1.symm) hown hL1 hL2 hL3 hL4 ⟨Nat.le_of_ble_eq_true rfl, Nat.le_of_ble_eq_true rfl, Nat.zero_le _, Nat.zero_le _⟩ hr2 hr_p5 (okX4_apart (22, .invokestatic 78, 3) (List.mem_of_getElem? (i := 11) rfl)) ?_
  refine sk_max hx hb (hml.trans hl.1.symm) hown hL5 hL6 hL3 hL7 ⟨Nat.le_of_ble_eq_true rfl, Nat.le_of_ble_eq_true rfl, Nat.zero_le _, Nat.zero_le _⟩ (by decide) (rI_imin hr2 hr_p5) (okX4_apart (25, .invokestatic 83, 3) (List.mem_of_getElem? (i := 12) rfl)) ?_
  refine sk_nm (fun v7_28 ev7_28 => ?_)
  have hM := hM v7_28 ev7_28
  have hr_v7_28 : rI v7_28 := by rw [ev7_28]; exact (rI_imax (by decide) (rI_imin hr2 hr_p5))
  refine lv_istore (lv' := [(7, .int (iI v7_28)), (6, .int (iI v6_13)), (0, .ref (sk_ad G p0)), (1, .int (iI p1)), (2, .int (iI p2)), (3, .int (iI p3)), (4, .int (iI p4)), (5, .int (iI p5))]) hx hb (okX4_apart (28, .istore 7, 2) (List.mem_of_getElem? (i := 13) rfl)) hl (by decide) rfl (fun ls hl => ?_)
  refine lv_aload_n hx hb (okX4_apart (30, .aload_n 0, 1) (List.mem_of_getElem? (i := 14) rfl)) rfl (lv_at hl 2 rfl) ?_
  refine sk_getr (b := (p0 + 1)) S hK hw hk_p0 (kd_in hk_p0) (C := RX4) (T := TX4) (N := 3) rfl hI4 0 ⟨by decide, rfl, by decide, rfl⟩ rfl (k' := 0) rfl rfl (rf4 hk_p0) hL8 (okX4_apart (31, .getfield 16, 3) (List.mem_of_getElem? (i := 15) rfl)) ?_
  refine lv_iload_n hx hb (okX4_apart (34, .iload_n 1, 1) (List.mem_of_getElem? (i := 16) rfl)) rfl (lv_at hl 3 rfl) ?_
  refine lv_bipush (v := iI 8) hx hb (okX4_apart (35, .bipush 8, 2) (List.mem_of_getElem? (i := 17) rfl)) (by decide +kernel) ?_
  refine sk_imul hx hb (okX4_apart (37, .imul, 1) (List.mem_of_getElem? (i := 18) rfl)) ?_
  refine lv_iload_n hx hb (okX4_apart (38, .iload_n 3, 1) (List.mem_of_getElem? (i := 19) rfl)) rfl (lv_at hl 5 rfl) ?_
  refine sk_iadd hx hb (okX4_apart (39, .iadd, 1) (List.mem_of_getElem? (i := 20) rfl)) ?_
  obtain ⟨hr3, hM⟩ := hM
  refine sk_ci (sk_runV (a := (p0 + 1)) (C := RX7) (As := [.int (iI ((p1 * 8) + p3))]) (rest := []) S (c_Row_at l G (k4 hk_p0) hr3 hM) sk_blind gX4_apart_X7_at rfl hdX7_at ⟨⟨rfl, rfl⟩, Nat.le_of_ble_eq_true rfl, Nat.le_of_ble_eq_true rfl⟩ (sk_recv hK hw (k4 hk_p0) (kd_in (k4 hk_p0)) (by decide) rfl) (sk_pre hK hw) rfl hl.1 rfl (Nat.le_of_ble_eq_true rfl) (okX4_apart (40, .invokevirtual 27, 3) (List.mem_of_getElem? (i := 21) rfl)) ⟨Nat.zero_le _, Nat.zero_le _⟩) hw (fun r_40 I_40 H locs hr_r_40 hM hw => ?_)
  refine lv_aload_n hx hb (okX4_apart (43, .aload_n 0, 1) (List.mem_of_getElem? (i := 22) rfl)) rfl (lv_at hl 2 rfl) ?_
  refine sk_getr (b := (p0 + 1)) S hK hw hk_p0 (kd_in hk_p0) (C := RX4) (T := TX4) (N := 3) rfl hI4 0 ⟨by decide, rfl, by decide, rfl⟩ rfl (k' := 0) rfl rfl (rf4 hk_p0) hL8 (okX4_apart (44, .getfield 16, 3) (List.mem_of_getElem? (i := 23) rfl)) ?_
  refine lv_iload_n hx hb (okX4_apart (47, .iload_n 2, 1) (List.mem_of_getElem? (i := 24) rfl)) rfl (lv_at hl 4 rfl) ?_
  refine lv_bipush (v := iI 8) hx hb (okX4_apart (48, .bipush 8, 2) (List.mem_of_getElem? (i := 25) rfl)) (by decide +kernel) ?_
  refine sk_imul hx hb (okX4_apart (50, .imul, 1) (List.mem_of_getElem? (i := 26) rfl)) ?_
  refine lv_iload_n hx hb (okX4_apart (51, .iload_n 3, 1) (List.mem_of_getElem? (i := 27) rfl)) rfl (lv_at hl 5 rfl) ?_
  refine sk_iadd hx hb (okX4_apart (52, .iadd, 1) (List.mem_of_getElem? (i := 28) rfl)) ?_
  obtain ⟨hr4, hM⟩ := hM
  refine sk_ci (sk_runV (a := (p0 + 1)) (C := RX7) (As := [.int (iI ((p2 * 8) + p3))]) (rest := [.int (iI r_40)]) S (c_Row_at l G (k4 hk_p0) hr4 hM) sk_blind gX4_apart_X7_at rfl hdX7_at ⟨⟨rfl, rfl⟩, Nat.le_of_ble_eq_true rfl, Nat.le_of_ble_eq_true rfl⟩ (sk_recv hK hw (k4 hk_p0) (kd_in (k4 hk_p0)) (by decide) rfl) (sk_pre hK hw) rfl hl.1 rfl (Nat.le_of_ble_eq_true rfl) (okX4_apart (53, .invokevirtual 27, 3) (List.mem_of_getElem? (i := 29) rfl)) ⟨Nat.zero_le _, Nat.zero_le _⟩) hw (fun r_53 I_53 H locs hr_r_53 hM hw => ?_)
  refine sk_isub hx hb (okX4_apart (56, .isub, 1) (List.mem_of_getElem? (i := 30) rfl)) ?_
  obtain ⟨hr5, hM⟩ := hM
  refine sk_nm (fun v8_57 ev8_57 => ?_)
  have hM := hM v8_57 ev8_57
  have hr_v8_57 : rI v8_57 := by rw [ev8_57]; exact hr5
  refine lv_istore (lv' := [(8, .int (iI v8_57)), (7, .int (iI v7_28)), (6, .int (iI v6_13)), (0, .ref (sk_ad G p0)), (1, .int (iI p1)), (2, .int (iI p2)), (3, .int (iI p3)), (4, .int (iI p4)), (5, .int (iI p5))]) hx hb (okX4_apart (57, .istore 8, 2) (List.mem_of_getElem? (i := 31) rfl)) hl (by decide) rfl (fun ls hl => ?_)
  refine lv_aload_n hx hb (okX4_apart (59, .aload_n 0, 1) (List.mem_of_getElem? (i := 32) rfl)) rfl (lv_at hl 3 rfl) ?_
  refine sk_getr (b := (p0 + 1)) S hK hw hk_p0 (kd_in hk_p0) (C := RX4) (T := TX4) (N := 3) rfl hI4 0 ⟨by decide, rfl, by decide, rfl⟩ rfl (k' := 0) rfl rfl (rf4 hk_p0) hL8 (okX4_apart (60, .getfield 16, 3) (List.mem_of_getElem? (i := 33) rfl)) ?_
  refine lv_iload_n hx hb (okX4_apart (63, .iload_n 1, 1) (List.mem_of_getElem? (i := 34) rfl)) rfl (lv_at hl 4 rfl) ?_
  refine lv_bipush (v := iI 8) hx hb (okX4_apart (64, .bipush 8, 2) (List.mem_of_getElem? (i := 35) rfl)) (by decide +kernel) ?_
  refine sk_imul hx hb (okX4_apart (66, .imul, 1) (List.mem_of_getElem? (i := 36) rfl)) ?_
  refine lv_iconst (v := iI 3) hx hb (okX4_apart (67, .iconst 3, 1) (List.mem_of_getElem? (i := 37) rfl)) rfl ?_
  refine sk_iadd hx hb (okX4_apart (68, .iadd, 1) (List.mem_of_getElem? (i := 38) rfl)) ?_
  refine lv_iload_n hx hb (okX4_apart (69, .iload_n 3, 1) (List.mem_of_getElem? (i := 39) rfl)) rfl (lv_at hl 6 rfl) ?_
  refine sk_iadd hx hb (okX4_apart (70, .iadd, 1) (List.mem_of_getElem? (i := 40) rfl)) ?_
  obtain ⟨hr6, hM⟩ := hM
  refine sk_ci (sk_runV (a := (p0 + 1)) (C := RX7) (As := [.int (iI (((p1 * 8) + 3) + p3))]) (rest := []) S (c_Row_at l G (k4 hk_p0) hr6 hM) sk_blind gX4_apart_X7_at rfl hdX7_at ⟨⟨rfl, rfl⟩, Nat.le_of_ble_eq_true rfl, Nat.le_of_ble_eq_true rfl⟩ (sk_recv hK hw (k4 hk_p0) (kd_in (k4 hk_p0)) (by decide) rfl) (sk_pre hK hw) rfl hl.1 rfl (Nat.le_of_ble_eq_true rfl) (okX4_apart (71, .invokevirtual 27, 3) (List.mem_of_getElem? (i := 41) rfl)) ⟨Nat.zero_le _, Nat.zero_le _⟩) hw (fun r_71 I_71 H locs hr_r_71 hM hw => ?_)
  refine lv_iload hx hb (okX4_apart (74, .iload 6, 2) (List.mem_of_getElem? (i := 42) rfl)) (lv_at hl 2 rfl) ?_
  refine sk_imul hx hb (okX4_apart (76, .imul, 1) (List.mem_of_getElem? (i := 43) rfl)) ?_
  obtain ⟨hr7, hM⟩ := hM
  refine sk_nm (fun v9_77 ev9_77 => ?_)
  have hM := hM v9_77 ev9_77
  have hr_v9_77 : rI v9_77 := by rw [ev9_77]; exact hr7
  refine lv_istore (lv' := [(9, .int (iI v9_77)), (8, .int (iI v8_57)), (7, .int (iI v7_28)), (6, .int (iI v6_13)), (0, .ref (sk_ad G p0)), (1, .int (iI p1)), (2, .int (iI p2)), (3, .int (iI p3)), (4, .int (iI p4)), (5, .int (iI p5))]) hx hb (okX4_apart (77, .istore 9, 2) (List.mem_of_getElem? (i := 44) rfl)) hl (by decide) rfl (fun ls hl => ?_)
  refine lv_aload_n hx hb (okX4_apart (79, .aload_n 0, 1) (List.mem_of_getElem? (i := 45) rfl)) rfl (lv_at hl 4 rfl) ?_
  refine sk_getr (b := (p0 + 1)) S hK hw hk_p0 (kd_in hk_p0) (C := RX4) (T := TX4) (N := 3) rfl hI4 0 ⟨by decide, rfl, by decide, rfl⟩ rfl (k' := 0) rfl rfl (rf4 hk_p0) hL8 (okX4_apart (80, .getfield 16, 3) (List.mem_of_getElem? (i := 46) rfl)) ?_
  refine lv_iload_n hx hb (okX4_apart (83, .iload_n 2, 1) (List.mem_of_getElem? (i := 47) rfl)) rfl (lv_at hl 6 rfl) ?_
  refine lv_bipush (v := iI 8) hx hb (okX4_apart (84, .bipush 8, 2) (List.mem_of_getElem? (i := 48) rfl)) (by decide +kernel) ?_
  refine sk_imul hx hb (okX4_apart (86, .imul, 1) (List.mem_of_getElem? (i := 49) rfl)) ?_
  refine lv_iconst (v := iI 3) hx hb (okX4_apart (87, .iconst 3, 1) (List.mem_of_getElem? (i := 50) rfl)) rfl ?_
  refine sk_iadd hx hb (okX4_apart (88, .iadd, 1) (List.mem_of_getElem? (i := 51) rfl)) ?_
  refine lv_iload_n hx hb (okX4_apart (89, .iload_n 3, 1) (List.mem_of_getElem? (i := 52) rfl)) rfl (lv_at hl 7 rfl) ?_
  refine sk_iadd hx hb (okX4_apart (90, .iadd, 1) (List.mem_of_getElem? (i := 53) rfl)) ?_
  obtain ⟨hr8, hM⟩ := hM
  refine sk_ci (sk_runV (a := (p0 + 1)) (C := RX7) (As := [.int (iI (((p2 * 8) + 3) + p3))]) (rest := []) S (c_Row_at l G (k4 hk_p0) hr8 hM) sk_blind gX4_apart_X7_at rfl hdX7_at ⟨⟨rfl, rfl⟩, Nat.le_of_ble_eq_true rfl, Nat.le_of_ble_eq_true rfl⟩ (sk_recv hK hw (k4 hk_p0) (kd_in (k4 hk_p0)) (by decide) rfl) (sk_pre hK hw) rfl hl.1 rfl (Nat.le_of_ble_eq_true rfl) (okX4_apart (91, .invokevirtual 27, 3) (List.mem_of_getElem? (i := 54) rfl)) ⟨Nat.zero_le _, Nat.zero_le _⟩) hw (fun r_91 I_91 H locs hr_r_91 hM hw => ?_)
  refine lv_iload hx hb (okX4_apart (94, .iload 7, 2) (List.mem_of_getElem? (i := 55) rfl)) (lv_at hl 2 rfl) ?_
  refine sk_imul hx hb (okX4_apart (96, .imul, 1) (List.mem_of_getElem? (i := 56) rfl)) ?_
  obtain ⟨hr9, hM⟩ := hM
  refine sk_nm (fun v10_97 ev10_97 => ?_)
  have hM := hM v10_97 ev10_97
  have hr_v10_97 : rI v10_97 := by rw [ev10_97]; exact hr9
  refine lv_istore (lv' := [(10, .int (iI v10_97)), (9, .int (iI v9_77)), (8, .int (iI v8_57)), (7, .int (iI v7_28)), (6, .int (iI v6_13)), (0, .ref (sk_ad G p0)), (1, .int (iI p1)), (2, .int (iI p2)), (3, .int (iI p3)), (4, .int (iI p4)), (5, .int (iI p5))]) hx hb (okX4_apart (97, .istore 10, 2) (List.mem_of_getElem? (i := 57) rfl)) hl (by decide) rfl (fun ls hl => ?_)
  refine lv_iload hx hb (okX4_apart (99, .iload 8, 2) (List.mem_of_getElem? (i := 58) rfl)) (lv_at hl 2 rfl) ?_
  refine lv_aload_n hx hb (okX4_apart (101, .aload_n 0, 1) (List.mem_of_getElem? (i := 59) rfl)) rfl (lv_at hl 5 rfl) ?_
  have hr10 := hw.1.2.2 p0 2
  refine sk_geti S hK hw hk_p0 (kd_in hk_p0) (C := RX4) (T := TX4) (N := 3) rfl hI4 2 ⟨by decide, rfl, by decide, rfl⟩ rfl (k' := 2) rfl hL0 (okX4_apart (102, .getfield 24, 3) (List.mem_of_getElem? (i := 60) rfl)) ?_
  refine sk_imul hx hb (okX4_apart (105, .imul, 1) (List.mem_of_getElem? (i := 61) rfl)) ?_
  refine lv_iload hx hb (okX4_apart (106, .iload 9, 2) (List.mem_of_getElem? (i := 62) rfl)) (lv_at hl 1 rfl) ?_
  refine sk_iadd hx hb (okX4_apart (108, .iadd, 1) (List.mem_of_getElem? (i := 63) rfl)) ?_
  refine lv_iload hx hb (okX4_apart (109, .iload 10, 2) (List.mem_of_getElem? (i := 64) rfl)) (lv_at hl 0 rfl) ?_
  refine sk_isub hx hb (okX4_apart (111, .isub, 1) (List.mem_of_getElem? (i := 65) rfl)) ?_
  obtain ⟨hr11, hM⟩ := hM
  exact sk_iret hx hb hr0 hlocks hK hw hr11 hM (okX4_apart (112, .ireturn, 1) (List.mem_of_getElem? (i := 66) rfl))
