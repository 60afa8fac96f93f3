def rmX12_wipe : Room := { frames := 0, cells := 0, slots := 0, locals := 0 }
set_option maxHeartbeats 4000000 in
set_option maxRecDepth 100000 in
theorem c_Mo_wipe (l : Launch) (G : sk_G) {Q : Int → sk_S → Prop} {I : sk_S} (hM : M_Mo_wipe Q I) : Met l yX12_wipe wsX12_wipe rmX12_wipe (va_Pc [.ref (sk_ad G 158)] (sk_U G 198 sk_t I)) (sk_Qi G 198 sk_t Q) 0 0 (sk_A G) := by
  refine Met.ofW (cc := cX12_wipe) (maxL := 2) (ret := (some .int)) (by decide) rfl ?_
  intro p e s m args below meth c s₁ B hml hv
  obtain ⟨rfl, hU, hK⟩ := hv
  have hx := B.exec
  have hb := B.bytes
  have hr0 := B.returns
  have hts := atoms_spec (ws := wsX12_wipe) B.pre
  have hown : s.vm.findClass RX12 = some m.cls := findClass_of_methodNamed B.named
  have hlocks := B.notSynchronized
  have S : CallFix p m c cX12_wipe 2 s ([.ref (sk_ad G 158)].toArray) wsX12_wipe RX12 := ⟨hx, hb, hml, hown, hts⟩
  have hL0 := hts (.fieldLink RX12 305 "SkyLightsModel" "marks" "I") (by decide +kernel)
  have hI12 : ∀ w ∈ u_ws RX12 TX12 53, w ∈ wsX12_wipe := by decide +kernel
  have hw : sk_W G 198 sk_t I s s.heap [] := ⟨hU, va_S.rf⟩
  have hl := lv_entry ([.ref (sk_ad G 158)]) (n := 2) (Nat.le_of_ble_eq_true rfl)
  rw [lg_entry_eq]
  generalize (lg_sl ([.ref (sk_ad G 158)]) ++ List.replicate (2 - (lg_sl ([.ref (sk_ad G 158)])).length) Slot.unset).toArray = ls at hl ⊢
  have hl : lv_has ls 2 [(0, .ref (sk_ad G 158))] := hl
  suffices hgo : ∀ (H : Heap) (locs : List Loc), sk_W G 198 sk_t I s H locs → W p l e (headSpec wsX12_wipe rmX12_wipe).room s m ([.ref (sk_ad G 158)].toArray) below meth c H locs 0 0 (MQ below (sk_Qi G 198 sk_t Q) ([.ref (sk_ad G 158)].toArray) s 0 0 (sk_A G)) (F0 m 0 ls []) from hgo _ _ hw
  unfold M_Mo_wipe at hM
  intro H locs hw
  refine lv_aload_n hx hb (okX12_wipe (0, .aload_n 0, 1) (List.mem_of_getElem? (i := 0) rfl)) rfl (lv_at hl 0 rfl) ?_
  have hr1 := hw.1.2.2 158 48
  refine sk_geti S hK hw kdn_158 (kd_in kdn_158) (C := RX12) (T := TX12) (N := 53) rfl hI12 48 ⟨by decide, rfl, by decide, rfl⟩ rfl (k' := 48) rfl hL0 (okX12_wipe (1, .getfield 305, 3) (List.mem_of_getElem? (i := 1) rfl)) ?_
  refine sk_nm (fun v1_4 ev1_4 => ?_)
  have hM := hM v1_4 ev1_4
  have hr_v1_4 : rI v1_4 := by rw [ev1_4]; exact hr1
  refine lv_istore_n (lv' := [(1, .int (iI v1_4)), (0, .ref (sk_ad G 158))]) hx hb (okX12_wipe (4, .istore_n 1, 1) (List.mem_of_getElem? (i := 2) rfl)) rfl hl (by decide) rfl (fun ls hl => ?_)
  refine lv_aload_n hx hb (okX12_wipe (5, .aload_n 0, 1) (List.mem_of_getElem? (i := 3) rfl)) rfl (lv_at hl 1 rfl) ?_
  refine lv_iconst (v := iI 0) hx hb (okX12_wipe (6, .iconst 0, 1) (List.mem_of_getElem? (i := 4) rfl)) rfl ?_
  refine sk_put S hK hw kdn_158 (kd_in kdn_158) (C := RX12) (T := TX12) (N := 53) rfl hI12 tyX12 tyX12_ok nmX12 48 ⟨by decide, rfl, by decide, rfl⟩ rfl rfl (k' := 48) rfl (by decide) ⟨rfl, rfl⟩ hL0 (okX12_wipe (7, .putfield 305, 3) (List.mem_of_getElem? (i := 5) rfl)) (fun H locs hw => ?_)
  refine lv_iload_n hx hb (okX12_wipe (10, .iload_n 1, 1) (List.mem_of_getElem? (i := 6) rfl)) rfl (lv_at hl 0 rfl) ?_
  exact sk_iret hx hb hr0 hlocks hK hw hr_v1_4 hM (okX12_wipe (11, .ireturn, 1) (List.mem_of_getElem? (i := 7) rfl))
def rmX12_zone : Room := { frames := 1, cells := 0, slots := 0, locals := 57 }
set_option maxHeartbeats 4000000 in
set_option maxRecDepth 100000 in
theorem c_Mo_zone (l : Launch) (G : sk_G) {p1 p2 p3 : Int} (hr_p1 : rI p1) (hr_p2 : rI p2) (hr_p3 : rI p3) {Q : Int → sk_S → Prop} {I : sk_S} (hM : M_Mo_zone p1 p2 p3 Q I) : Met l yX12_zone wsX12_zone rmX12_zone (va_Pc [.ref (sk_ad G 158), .int (iI p1), .int (iI p2), .int (iI p3)] (sk_U G 198 sk_t I)) (sk_Qi G 198 sk_t Q) 0 0 (sk_A G) := by
  refine Met.ofW (cc := cX12_zone) (maxL := 4) (ret := (some .int)) (by decide) rfl ?_
  intro p e s m args below meth c s₁ B hml hv
  obtain ⟨rfl, hU, hK⟩ := hv
  have hx := B.exec
  have hb := B.bytes
  have hr0 := B.returns
  have hts := atoms_spec (ws := wsX12_zone) B.pre
  have hown : s.vm.findClass RX12 = some m.cls := findClass_of_methodNamed B.named
  have hlocks := B.notSynchronized
  have S : CallFix p m c cX12_zone 4 s ([.ref (sk_ad G 158), .int (iI p1), .int (iI p2), .int (iI p3)].toArray) wsX12_zone RX12 := ⟨hx, hb, hml, hown, hts⟩
  have hL0 := hts (.constantLong RX12 146 (-200)) (by decide +kernel)
  have hL1 := hts (.constantLong RX12 148 (200)) (by decide +kernel)
  have hL2 := hts (.fieldLink RX12 210 "SkyLightsModel" "zoneX" "I") (by decide +kernel)
  have hL3 := hts (.fieldLink RX12 213 "SkyLightsModel" "zoneY" "I") (by decide +kernel)
  have hL4 := hts (.fieldLink RX12 216 "SkyLightsModel" "radius" "I") (by decide +kernel)
  have hI12 : ∀ w ∈ u_ws RX12 TX12 53, w ∈ wsX12_zone := by decide +kernel
  have hw : sk_W G 198 sk_t I s s.heap [] := ⟨hU, va_S.rf⟩
  have hl := lv_entry ([.ref (sk_ad G 158), .int (iI p1), .int (iI p2), .int (iI p3)]) (n := 4) (Nat.le_of_ble_eq_true rfl)
  rw [lg_entry_eq]
  generalize (lg_sl ([.ref (sk_ad G 158), .int (iI p1), .int (iI p2), .int (iI p3)]) ++ List.replicate (4 - (lg_sl ([.ref (sk_ad G 158), .int (iI p1), .int (iI p2), .int (iI p3)])).length) Slot.unset).toArray = ls at hl ⊢
  have hl : lv_has ls 4 [(0, .ref (sk_ad G 158)), (1, .int (iI p1)), (2, .int (iI p2)), (3, .int (iI p3))] := hl
  suffices hgo : ∀ (H : Heap) (locs : List Loc), sk_W G 198 sk_t I s H locs → W p l e (headSpec wsX12_zone rmX12_zone).room s m ([.ref (sk_ad G 158), .int (iI p1), .int (iI p2), .int (iI p3)].toArray) below meth c H locs 0 0 (MQ below (sk_Qi G 198 sk_t Q) ([.ref (sk_ad G 158), .int (iI p1), .int (iI p2), .int (iI p3)].toArray) s 0 0 (sk_A G)) (F0 m 0 ls []) from hgo _ _ hw
  unfold M_Mo_zone at hM
  intro H locs hw
  refine lv_iload_n hx hb (okX12_zone (0, .iload_n 1, 1) (List.mem_of_getElem? (i := 0) rfl)) rfl (lv_at hl 1 rfl) ?_
  refine sk_i2l hx hb hr_p1 (okX12_zone (1, .i2l, 1) (List.mem_of_getElem? (i := 1) rfl)) ?_
  refine lv_ldc2 (v := lI (-200)) hx hb hown (by rw [show lI (-200) = (-200 : Int64) from by decide +kernel]; exact hL0) (okX12_zone (2, .ldc2_w 146, 3) (List.mem_of_getElem? (i := 2) rfl)) ?_
  refine lv_ldc2 (v := lI 200) hx hb hown (by rw [show lI 200 = (200 : Int64) from by decide +kernel]; exact hL1) (okX12_zone (5, .ldc2_w 148, 3) (List.mem_of_getElem? (i := 3) rfl)) ?_
  refine sk_ci (sk_runS (As := [.long (lI p1), .long (lI ((-200))), .long (lI 200)]) (rest := []) S (c_Mo_isIn l G ⟨Int.le_trans (by decide) (hr_p1).1, Int.lt_trans (hr_p1).2 (by decide)⟩ (by decide) (by decide) hM) sk_blind gX12_zone_X12_isIn rfl hdX12_isIn ⟨⟨rfl, rfl⟩, Nat.le_of_ble_eq_true rfl, Nat.le_of_ble_eq_true rfl⟩ (sk_pre hK hw) rfl hl.1 rfl (Nat.le_of_ble_eq_true rfl) (okX12_zone (8, .invokestatic 150, 3) (List.mem_of_getElem? (i := 4) rfl)) ⟨Nat.zero_le _, Nat.zero_le _⟩) hw (fun r_8 I_8 H locs hr_r_8 hM hw => ?_)
  obtain ⟨hb_r_8, hM⟩ := hM
  refine sk_if_eq (tgt := 40) hx hb hr_r_8 (okX12_zone (11, .ifCond .eq 29, 3) (List.mem_of_getElem? (i := 5) rfl)) (by decide) (fun c11 => ?_) (fun c11 => ?_)
  · have hM := hM.1 c11
    refine lv_bipush (v := iI (-2)) hx hb (okX12_zone (40, .bipush (-2), 2) (List.mem_of_getElem? (i := 18) rfl)) (by decide +kernel) ?_
    exact sk_iret hx hb hr0 hlocks hK hw (by decide) hM (okX12_zone (42, .ireturn, 1) (List.mem_of_getElem? (i := 19) rfl))
  · have hM := hM.2 c11
    refine lv_iload_n hx hb (okX12_zone (14, .iload_n 2, 1) (List.mem_of_getElem? (i := 6) rfl)) rfl (lv_at hl 2 rfl) ?_
    refine sk_i2l hx hb hr_p2 (okX12_zone (15, .i2l, 1) (List.mem_of_getElem? (i := 7) rfl)) ?_
    refine lv_ldc2 (v := lI (-200)) hx hb hown (by rw [show lI (-200) = (-200 : Int64) from by decide +kernel]; exact hL0) (okX12_zone (16, .ldc2_w 146, 3) (List.mem_of_getElem? (i := 8) rfl)) ?_
    refine lv_ldc2 (v := lI 200) hx hb hown (by rw [show lI 200 = (200 : Int64) from by decide +kernel]; exact hL1) (okX12_zone (19, .ldc2_w 148, 3) (List.mem_of_getElem? (i := 9) rfl)) ?_
    refine sk_ci (sk_runS (As := [.long (lI p2), .long (lI ((-200))), .long (lI 200)]) (rest := []) S (c_Mo_isIn l G ⟨Int.le_trans (by decide) (hr_p2).1, Int.lt_trans (hr_p2).2 (by decide)⟩ (by decide) (by decide) hM) sk_blind gX12_zone_X12_isIn rfl hdX12_isIn ⟨⟨rfl, rfl⟩, Nat.le_of_ble_eq_true rfl, Nat.le_of_ble_eq_true rfl⟩ (sk_pre hK hw) rfl hl.1 rfl (Nat.le_of_ble_eq_true rfl) (okX12_zone (22, .invokestatic 150, 3) (List.mem_of_getElem? (i := 10) rfl)) ⟨Nat.zero_le _, Nat.zero_le _⟩) hw (fun r_22 I_22 H locs hr_r_22 hM hw => ?_)
    obtain ⟨hb_r_22, hM⟩ := hM
    refine sk_if_eq (tgt := 40) hx hb hr_r_22 (okX12_zone (25, .ifCond .eq 15, 3) (List.mem_of_getElem? (i := 11) rfl)) (by decide) (fun c25 => ?_) (fun c25 => ?_)
    · have hM := hM.1 c25
      refine lv_bipush (v := iI (-2)) hx hb (okX12_zone (40, .bipush (-2), 2) (List.mem_of_getElem? (i := 18) rfl)) (by decide +kernel) ?_
      exact sk_iret hx hb hr0 hlocks hK hw (by decide) hM (okX12_zone (42, .ireturn, 1) (List.mem_of_getElem? (i := 19) rfl))
    · have hM := hM.2 c25
      refine lv_iload_n hx hb (okX12_zone (28, .iload_n 3, 1) (List.mem_of_getElem? (i := 12) rfl)) rfl (lv_at hl 3 rfl) ?_
      refine sk_i2l hx hb hr_p3 (okX12_zone (29, .i2l, 1) (List.mem_of_getElem? (i := 13) rfl)) ?_
      refine lv_lconst (v := lI 0) hx hb (okX12_zone (30, .lconst 0, 1) (List.mem_of_getElem? (i := 14) rfl)) (by decide +kernel) ?_
      refine lv_ldc2 (v := lI 200) hx hb hown (by rw [show lI 200 = (200 : Int64) from by decide +kernel]; exact hL1) (okX12_zone (31, .ldc2_w 148, 3) (List.mem_of_getElem? (i := 15) rfl)) ?_
      refine sk_ci (sk_runS (As := [.long (lI p3), .long (lI 0), .long (lI 200)]) (rest := []) S (c_Mo_isIn l G ⟨Int.le_trans (by decide) (hr_p3).1, Int.lt_trans (hr_p3).2 (by decide)⟩ (by decide) (by decide) hM) sk_blind gX12_zone_X12_isIn rfl hdX12_isIn ⟨⟨rfl, rfl⟩, Nat.le_of_ble_eq_true rfl, Nat.le_of_ble_eq_true rfl⟩ (sk_pre hK hw) rfl hl.1 rfl (Nat.le_of_ble_eq_true rfl) (okX12_zone (34, .invokestatic 150, 3) (List.mem_of_getElem? (i := 16) rfl)) ⟨Nat.zero_le _, Nat.zero_le _⟩) hw (fun r_34 I_34 H locs hr_r_34 hM hw => ?_)
      obtain ⟨hb_r_34, hM⟩ := hM
      refine sk_if_ne (tgt := 43) hx hb hr_r_34 (okX12_zone (37, .ifCond .ne 6, 3) (List.mem_of_getElem? (i := 17) rfl)) (by decide) (fun c37 => ?_) (fun c37 => ?_)
      · have hM := hM.1 c37
        refine lv_aload_n hx hb (okX12_zone (43, .aload_n 0, 1) (List.mem_of_getElem? (i := 20) rfl)) rfl (lv_at hl 0 rfl) ?_
        refine lv_iload_n hx hb (okX12_zone (44, .iload_n 1, 1) (List.mem_of_getElem? (i := 21) rfl)) rfl (lv_at hl 1 rfl) ?_
        refine sk_put S hK hw kdn_158 (kd_in kdn_158) (C := RX12) (T := TX12) (N := 53) rfl hI12 tyX12 tyX12_ok nmX12 11 ⟨by decide, rfl, by decide, rfl⟩ rfl rfl (k' := 11) rfl hr_p1 ⟨rfl, rfl⟩ hL2 (okX12_zone (45, .putfield 210, 3) (List.mem_of_getElem? (i := 22) rfl)) (fun H locs hw => ?_)
        refine lv_aload_n hx hb (okX12_zone (48, .aload_n 0, 1) (List.mem_of_getElem? (i := 23) rfl)) rfl (lv_at hl 0 rfl) ?_
        refine lv_iload_n hx hb (okX12_zone (49, .iload_n 2, 1) (List.mem_of_getElem? (i := 24) rfl)) rfl (lv_at hl 2 rfl) ?_
        refine sk_put S hK hw kdn_158 (kd_in kdn_158) (C := RX12) (T := TX12) (N := 53) rfl hI12 tyX12 tyX12_ok nmX12 12 ⟨by decide, rfl, by decide, rfl⟩ rfl rfl (k' := 12) rfl hr_p2 ⟨rfl, rfl⟩ hL3 (okX12_zone (50, .putfield 213, 3) (List.mem_of_getElem? (i := 25) rfl)) (fun H locs hw => ?_)
        refine lv_aload_n hx hb (okX12_zone (53, .aload_n 0, 1) (List.mem_of_getElem? (i := 26) rfl)) rfl (lv_at hl 0 rfl) ?_
        refine lv_iload_n hx hb (okX12_zone (54, .iload_n 3, 1) (List.mem_of_getElem? (i := 27) rfl)) rfl (lv_at hl 3 rfl) ?_
        refine sk_put S hK hw kdn_158 (kd_in kdn_158) (C := RX12) (T := TX12) (N := 53) rfl hI12 tyX12 tyX12_ok nmX12 13 ⟨by decide, rfl, by decide, rfl⟩ rfl rfl (k' := 13) rfl hr_p3 ⟨rfl, rfl⟩ hL4 (okX12_zone (55, .putfield 216, 3) (List.mem_of_getElem? (i := 28) rfl)) (fun H locs hw => ?_)
        refine lv_iconst (v := iI 0) hx hb (okX12_zone (58, .iconst 0, 1) (List.mem_of_getElem? (i := 29) rfl)) rfl ?_
        exact sk_iret hx hb hr0 hlocks hK hw (by decide) hM (okX12_zone (59, .ireturn, 1) (List.mem_of_getElem? (i := 30) rfl))
      · have hM := hM.2 c37
        refine lv_bipush (v := iI (-2)) hx hb (okX12_zone (40, .bipush (-2), 2) (List.mem_of_getElem? (i := 18) rfl)) (by decide +kernel) ?_
        exact sk_iret hx hb hr0 hlocks hK hw (by decide) hM (okX12_zone (42, .ireturn, 1) (List.mem_of_getElem? (i := 19) rfl))
