def rmX12_flyer : Room := { frames := 1, cells := 0, slots := 0, locals := 57 }
set_option maxHeartbeats 4000000 in
set_option maxRecDepth 100000 in
theorem c_Mo_flyer (l : Launch) (G : sk_G) {p1 p2 p3 : Int} (hr_p1 : rI p1) (hr_p2 : rI p2) (hr_p3 : rI p3) {Q : Int → sk_S → Prop} {I : sk_S} (hM : M_Mo_flyer p1 p2 p3 Q I) : Met l yX12_flyer wsX12_flyer rmX12_flyer (va_Pc [.ref (sk_ad G 158), .int (iI p1), .int (iI p2), .int (iI p3)] (sk_U G 198 sk_t I)) (sk_Qi G 198 sk_t Q) 0 0 (sk_A G) := by
  refine Met.ofW (cc := cX12_flyer) (maxL := 4) (ret := (some .int)) (by decide) rfl ?_
  intro p e s m args below meth c s₁ B hml hv
  obtain ⟨rfl, hU, hK⟩ := hv
  have hx := B.exec
  have hb := B.bytes
  have hr0 := B.returns
  have hts := atoms_spec (ws := wsX12_flyer) B.pre
  have hown : s.vm.findClass RX12 = some m.cls := findClass_of_methodNamed B.named
  have hlocks := B.notSynchronized
  have S : CallFix p m c cX12_flyer 4 s ([.ref (sk_ad G 158), .int (iI p1), .int (iI p2), .int (iI p3)].toArray) wsX12_flyer RX12 := ⟨hx, hb, hml, hown, hts⟩
  have hL0 := hts (.constantLong RX12 146 (-200)) (by decide +kernel)
  have hL1 := hts (.constantLong RX12 148 (200)) (by decide +kernel)
  have hL2 := hts (.constantLong RX12 154 (100000)) (by decide +kernel)
  have hL3 := hts (.fieldLink RX12 156 "SkyLightsModel" "scenes" "I") (by decide +kernel)
  have hL4 := hts (.fieldLink RX12 140 "SkyLightsModel" "flyers" "I") (by decide +kernel)
  have hL5 := hts (.fieldLink RX12 7 "SkyLightsModel" "padX" "[I") (by decide +kernel)
  have hL6 := hts (.fieldLink RX12 13 "SkyLightsModel" "padY" "[I") (by decide +kernel)
  have hL7 := hts (.fieldLink RX12 16 "SkyLightsModel" "charge" "[I") (by decide +kernel)
  have hI12 : ∀ w ∈ u_ws RX12 TX12 53, w ∈ wsX12_flyer := by decide +kernel
  have hw : sk_W G 198 sk_t I s s.heap [] := ⟨hU, va_S.rf⟩
  have hl := lv_entry ([.ref (sk_ad G 158), .int (iI p1), .int (iI p2), .int (iI p3)]) (n := 4) (Nat.le_of_ble_eq_true rfl)
  rw [lg_entry_eq]
  generalize (lg_sl ([.ref (sk_ad G 158), .int (iI p1), .int (iI p2), .int (iI p3)]) ++ List.replicate (4 - (lg_sl ([.ref (sk_ad G 158), .int (iI p1), .int (iI p2), .int (iI p3)])).length) Slot.unset).toArray = ls at hl ⊢
  have hl : lv_has ls 4 [(0, .ref (sk_ad G 158)), (1, .int (iI p1)), (2, .int (iI p2)), (3, .int (iI p3))] := hl
  suffices hgo : ∀ (H : Heap) (locs : List Loc), sk_W G 198 sk_t I s H locs → W p l e (headSpec wsX12_flyer rmX12_flyer).room s m ([.ref (sk_ad G 158), .int (iI p1), .int (iI p2), .int (iI p3)].toArray) below meth c H locs 0 0 (MQ below (sk_Qi G 198 sk_t Q) ([.ref (sk_ad G 158), .int (iI p1), .int (iI p2), .int (iI p3)].toArray) s 0 0 (sk_A G)) (F0 m 0 ls []) from hgo _ _ hw
  unfold M_Mo_flyer at hM
  intro H locs hw
  refine lv_iload_n hx hb (okX12_flyer (0, .iload_n 1, 1) (List.mem_of_getElem? (i := 0) rfl)) rfl (lv_at hl 1 rfl) ?_
  refine sk_i2l hx hb hr_p1 (okX12_flyer (1, .i2l, 1) (List.mem_of_getElem? (i := 1) rfl)) ?_
  refine lv_ldc2 (v := lI (-200)) hx hb hown (by rw [show lI (-200) = (-200 : Int64) from by decide +kernel]; exact hL0) (okX12_flyer (2, .ldc2_w 146, 3) (List.mem_of_getElem? (i := 2) rfl)) ?_
  refine lv_ldc2 (v := lI 200) hx hb hown (by rw [show lI 200 = (200 : Int64) from by decide +kernel]; exact hL1) (okX12_flyer (5, .ldc2_w 148, 3) (List.mem_of_getElem? (i := 3) rfl)) ?_
  refine sk_ci (sk_runS (As := [.long (lI p1), .long (lI ((-200))), .long (lI 200)]) (rest := []) S (c_Mo_isIn l G ⟨Int.le_trans (by decide) (hr_p1).1, Int.lt_trans (hr_p1).2 (by decide)⟩ (by decide) (by decide) hM) sk_blind gX12_flyer_X12_isIn rfl hdX12_isIn ⟨⟨rfl, rfl⟩, Nat.le_of_ble_eq_true rfl, Nat.le_of_ble_eq_true rfl⟩ (sk_pre hK hw) rfl hl.1 rfl (Nat.le_of_ble_eq_true rfl) (okX12_flyer (8, .invokestatic 150, 3) (List.mem_of_getElem? (i := 4) rfl)) ⟨Nat.zero_le _, Nat.zero_le _⟩) hw (fun r_8 I_8 H locs hr_r_8 hM hw => ?_)
  obtain ⟨hb_r_8, hM⟩ := hM
  refine sk_if_eq (tgt := 40) hx hb hr_r_8 (okX12_flyer (11, .ifCond .eq 29, 3) (List.mem_of_getElem? (i := 5) rfl)) (by decide) (fun c11 => ?_) (fun c11 => ?_)
  · have hM := hM.1 c11
    refine lv_bipush (v := iI (-2)) hx hb (okX12_flyer (40, .bipush (-2), 2) (List.mem_of_getElem? (i := 18) rfl)) (by decide +kernel) ?_
    exact sk_iret hx hb hr0 hlocks hK hw (by decide) hM (okX12_flyer (42, .ireturn, 1) (List.mem_of_getElem? (i := 19) rfl))
  · have hM := hM.2 c11
    refine lv_iload_n hx hb (okX12_flyer (14, .iload_n 2, 1) (List.mem_of_getElem? (i := 6) rfl)) rfl (lv_at hl 2 rfl) ?_
    refine sk_i2l hx hb hr_p2 (okX12_flyer (15, .i2l, 1) (List.mem_of_getElem? (i := 7) rfl)) ?_
    refine lv_ldc2 (v := lI (-200)) hx hb hown (by rw [show lI (-200) = (-200 : Int64) from by decide +kernel]; exact hL0) (okX12_flyer (16, .ldc2_w 146, 3) (List.mem_of_getElem? (i := 8) rfl)) ?_
    refine lv_ldc2 (v := lI 200) hx hb hown (by rw [show lI 200 = (200 : Int64) from by decide +kernel]; exact hL1) (okX12_flyer (19, .ldc2_w 148, 3) (List.mem_of_getElem? (i := 9) rfl)) ?_
    refine sk_ci (sk_runS (As := [.long (lI p2), .long (lI ((-200))), .long (lI 200)]) (rest := []) S (c_Mo_isIn l G ⟨Int.le_trans (by decide) (hr_p2).1, Int.lt_trans (hr_p2).2 (by decide)⟩ (by decide) (by decide) hM) sk_blind gX12_flyer_X12_isIn rfl hdX12_isIn ⟨⟨rfl, rfl⟩, Nat.le_of_ble_eq_true rfl, Nat.le_of_ble_eq_true rfl⟩ (sk_pre hK hw) rfl hl.1 rfl (Nat.le_of_ble_eq_true rfl) (okX12_flyer (22, .invokestatic 150, 3) (List.mem_of_getElem? (i := 10) rfl)) ⟨Nat.zero_le _, Nat.zero_le _⟩) hw (fun r_22 I_22 H locs hr_r_22 hM hw => ?_)
    obtain ⟨hb_r_22, hM⟩ := hM
    refine sk_if_eq (tgt := 40) hx hb hr_r_22 (okX12_flyer (25, .ifCond .eq 15, 3) (List.mem_of_getElem? (i := 11) rfl)) (by decide) (fun c25 => ?_) (fun c25 => ?_)
    · have hM := hM.1 c25
      refine lv_bipush (v := iI (-2)) hx hb (okX12_flyer (40, .bipush (-2), 2) (List.mem_of_getElem? (i := 18) rfl)) (by decide +kernel) ?_
      exact sk_iret hx hb hr0 hlocks hK hw (by decide) hM (okX12_flyer (42, .ireturn, 1) (List.mem_of_getElem? (i := 19) rfl))
    · have hM := hM.2 c25
      refine lv_iload_n hx hb (okX12_flyer (28, .iload_n 3, 1) (List.mem_of_getElem? (i := 12) rfl)) rfl (lv_at hl 3 rfl) ?_
      refine sk_i2l hx hb hr_p3 (okX12_flyer (29, .i2l, 1) (List.mem_of_getElem? (i := 13) rfl)) ?_
      refine lv_lconst (v := lI 0) hx hb (okX12_flyer (30, .lconst 0, 1) (List.mem_of_getElem? (i := 14) rfl)) (by decide +kernel) ?_
      refine lv_ldc2 (v := lI 100000) hx hb hown (by rw [show lI 100000 = (100000 : Int64) from by decide +kernel]; exact hL2) (okX12_flyer (31, .ldc2_w 154, 3) (List.mem_of_getElem? (i := 15) rfl)) ?_
      refine sk_ci (sk_runS (As := [.long (lI p3), .long (lI 0), .long (lI 100000)]) (rest := []) S (c_Mo_isIn l G ⟨Int.le_trans (by decide) (hr_p3).1, Int.lt_trans (hr_p3).2 (by decide)⟩ (by decide) (by decide) hM) sk_blind gX12_flyer_X12_isIn rfl hdX12_isIn ⟨⟨rfl, rfl⟩, Nat.le_of_ble_eq_true rfl, Nat.le_of_ble_eq_true rfl⟩ (sk_pre hK hw) rfl hl.1 rfl (Nat.le_of_ble_eq_true rfl) (okX12_flyer (34, .invokestatic 150, 3) (List.mem_of_getElem? (i := 16) rfl)) ⟨Nat.zero_le _, Nat.zero_le _⟩) hw (fun r_34 I_34 H locs hr_r_34 hM hw => ?_)
      obtain ⟨hb_r_34, hM⟩ := hM
      refine sk_if_ne (tgt := 43) hx hb hr_r_34 (okX12_flyer (37, .ifCond .ne 6, 3) (List.mem_of_getElem? (i := 17) rfl)) (by decide) (fun c37 => ?_) (fun c37 => ?_)
      · have hM := hM.1 c37
        refine lv_aload_n hx hb (okX12_flyer (43, .aload_n 0, 1) (List.mem_of_getElem? (i := 20) rfl)) rfl (lv_at hl 0 rfl) ?_
        have hr1 := hw.1.2.2 158 41
        refine sk_geti S hK hw kdn_158 (kd_in kdn_158) (C := RX12) (T := TX12) (N := 53) rfl hI12 41 ⟨by decide, rfl, by decide, rfl⟩ rfl (k' := 41) rfl hL3 (okX12_flyer (44, .getfield 156, 3) (List.mem_of_getElem? (i := 21) rfl)) ?_
        refine sk_if_le (tgt := 53) hx hb hr1 (okX12_flyer (47, .ifCond .le 6, 3) (List.mem_of_getElem? (i := 22) rfl)) (by decide) (fun c47 => ?_) (fun c47 => ?_)
        · have hM := hM.1 c47
          refine lv_aload_n hx hb (okX12_flyer (53, .aload_n 0, 1) (List.mem_of_getElem? (i := 25) rfl)) rfl (lv_at hl 0 rfl) ?_
          have hr2 := hw.1.2.2 158 8
          refine sk_geti S hK hw kdn_158 (kd_in kdn_158) (C := RX12) (T := TX12) (N := 53) rfl hI12 8 ⟨by decide, rfl, by decide, rfl⟩ rfl (k' := 8) rfl hL4 (okX12_flyer (54, .getfield 140, 3) (List.mem_of_getElem? (i := 26) rfl)) ?_
          refine lv_bipush (v := iI 10) hx hb (okX12_flyer (57, .bipush 10, 2) (List.mem_of_getElem? (i := 27) rfl)) (by decide +kernel) ?_
          refine sk_icmp_ne (tgt := 65) hx hb hr2 (by decide) (okX12_flyer (59, .if_icmp .ne 6, 3) (List.mem_of_getElem? (i := 28) rfl)) (by decide) (fun c59 => ?_) (fun c59 => ?_)
          · have hM := hM.1 c59
            refine lv_aload_n hx hb (okX12_flyer (65, .aload_n 0, 1) (List.mem_of_getElem? (i := 31) rfl)) rfl (lv_at hl 0 rfl) ?_
            refine sk_getr (b := 159) S hK hw kdn_158 (kd_in kdn_158) (C := RX12) (T := TX12) (N := 53) rfl hI12 0 ⟨by decide, rfl, by decide, rfl⟩ rfl (k' := 0) rfl rfl (by decide +kernel) hL5 (okX12_flyer (66, .getfield 7, 3) (List.mem_of_getElem? (i := 32) rfl)) ?_
            refine lv_aload_n hx hb (okX12_flyer (69, .aload_n 0, 1) (List.mem_of_getElem? (i := 33) rfl)) rfl (lv_at hl 0 rfl) ?_
            have hr3 := hw.1.2.2 158 8
            refine sk_geti S hK hw kdn_158 (kd_in kdn_158) (C := RX12) (T := TX12) (N := 53) rfl hI12 8 ⟨by decide, rfl, by decide, rfl⟩ rfl (k' := 8) rfl hL4 (okX12_flyer (70, .getfield 140, 3) (List.mem_of_getElem? (i := 34) rfl)) ?_
            refine lv_iload_n hx hb (okX12_flyer (73, .iload_n 1, 1) (List.mem_of_getElem? (i := 35) rfl)) rfl (lv_at hl 1 rfl) ?_
            obtain ⟨hi4, hM⟩ := hM
            refine sk_ist S hK hw kdn_159 (kd_in kdn_159) (by rw [lnn_159]; exact hi4) hr_p1 (okX12_flyer (74, .iastore, 1) (List.mem_of_getElem? (i := 36) rfl)) (fun H locs hw => ?_)
            refine lv_aload_n hx hb (okX12_flyer (75, .aload_n 0, 1) (List.mem_of_getElem? (i := 37) rfl)) rfl (lv_at hl 0 rfl) ?_
            refine sk_getr (b := 160) S hK hw kdn_158 (kd_in kdn_158) (C := RX12) (T := TX12) (N := 53) rfl hI12 1 ⟨by decide, rfl, by decide, rfl⟩ rfl (k' := 1) rfl rfl (by decide +kernel) hL6 (okX12_flyer (76, .getfield 13, 3) (List.mem_of_getElem? (i := 38) rfl)) ?_
            refine lv_aload_n hx hb (okX12_flyer (79, .aload_n 0, 1) (List.mem_of_getElem? (i := 39) rfl)) rfl (lv_at hl 0 rfl) ?_
            have hr5 := hw.1.2.2 158 8
            refine sk_geti S hK hw kdn_158 (kd_in kdn_158) (C := RX12) (T := TX12) (N := 53) rfl hI12 8 ⟨by decide, rfl, by decide, rfl⟩ rfl (k' := 8) rfl hL4 (okX12_flyer (80, .getfield 140, 3) (List.mem_of_getElem? (i := 40) rfl)) ?_
            refine lv_iload_n hx hb (okX12_flyer (83, .iload_n 2, 1) (List.mem_of_getElem? (i := 41) rfl)) rfl (lv_at hl 2 rfl) ?_
            obtain ⟨hi6, hM⟩ := hM
            refine sk_ist S hK hw kdn_160 (kd_in kdn_160) (by rw [lnn_160]; exact hi6) hr_p2 (okX12_flyer (84, .iastore, 1) (List.mem_of_getElem? (i := 42) rfl)) (fun H locs hw => ?_)
            refine lv_aload_n hx hb (okX12_flyer (85, .aload_n 0, 1) (List.mem_of_getElem? (i := 43) rfl)) rfl (lv_at hl 0 rfl) ?_
            refine sk_getr (b := 161) S hK hw kdn_158 (kd_in kdn_158) (C := RX12) (T := TX12) (N := 53) rfl hI12 2 ⟨by decide, rfl, by decide, rfl⟩ rfl (k' := 2) rfl rfl (by decide +kernel) hL7 (okX12_flyer (86, .getfield 16, 3) (List.mem_of_getElem? (i := 44) rfl)) ?_
            refine lv_aload_n hx hb (okX12_flyer (89, .aload_n 0, 1) (List.mem_of_getElem? (i := 45) rfl)) rfl (lv_at hl 0 rfl) ?_
            have hr7 := hw.1.2.2 158 8
            refine sk_geti S hK hw kdn_158 (kd_in kdn_158) (C := RX12) (T := TX12) (N := 53) rfl hI12 8 ⟨by decide, rfl, by decide, rfl⟩ rfl (k' := 8) rfl hL4 (okX12_flyer (90, .getfield 140, 3) (List.mem_of_getElem? (i := 46) rfl)) ?_
            refine lv_iload_n hx hb (okX12_flyer (93, .iload_n 3, 1) (List.mem_of_getElem? (i := 47) rfl)) rfl (lv_at hl 3 rfl) ?_
            obtain ⟨hi8, hM⟩ := hM
            refine sk_ist S hK hw kdn_161 (kd_in kdn_161) (by rw [lnn_161]; exact hi8) hr_p3 (okX12_flyer (94, .iastore, 1) (List.mem_of_getElem? (i := 48) rfl)) (fun H locs hw => ?_)
            refine lv_aload_n hx hb (okX12_flyer (95, .aload_n 0, 1) (List.mem_of_getElem? (i := 49) rfl)) rfl (lv_at hl 0 rfl) ?_
            refine lv_dup hx hb (okX12_flyer (96, .dup, 1) (List.mem_of_getElem? (i := 50) rfl)) rfl ?_
            have hr9 := hw.1.2.2 158 8
            refine sk_geti S hK hw kdn_158 (kd_in kdn_158) (C := RX12) (T := TX12) (N := 53) rfl hI12 8 ⟨by decide, rfl, by decide, rfl⟩ rfl (k' := 8) rfl hL4 (okX12_flyer (97, .getfield 140, 3) (List.mem_of_getElem? (i := 51) rfl)) ?_
            refine lv_iconst (v := iI 1) hx hb (okX12_flyer (100, .iconst 1, 1) (List.mem_of_getElem? (i := 52) rfl)) rfl ?_
            refine sk_iadd hx hb (okX12_flyer (101, .iadd, 1) (List.mem_of_getElem? (i := 53) rfl)) ?_
            obtain ⟨hr10, hM⟩ := hM
            refine sk_put S hK hw kdn_158 (kd_in kdn_158) (C := RX12) (T := TX12) (N := 53) rfl hI12 tyX12 tyX12_ok nmX12 8 ⟨by decide, rfl, by decide, rfl⟩ rfl rfl (k' := 8) rfl hr10 ⟨rfl, rfl⟩ hL4 (okX12_flyer (102, .putfield 140, 3) (List.mem_of_getElem? (i := 54) rfl)) (fun H locs hw => ?_)
            refine lv_aload_n hx hb (okX12_flyer (105, .aload_n 0, 1) (List.mem_of_getElem? (i := 55) rfl)) rfl (lv_at hl 0 rfl) ?_
            have hr11 := hw.1.2.2 158 8
            refine sk_geti S hK hw kdn_158 (kd_in kdn_158) (C := RX12) (T := TX12) (N := 53) rfl hI12 8 ⟨by decide, rfl, by decide, rfl⟩ rfl (k' := 8) rfl hL4 (okX12_flyer (106, .getfield 140, 3) (List.mem_of_getElem? (i := 56) rfl)) ?_
            refine lv_iconst (v := iI 1) hx hb (okX12_flyer (109, .iconst 1, 1) (List.mem_of_getElem? (i := 57) rfl)) rfl ?_
            refine sk_isub hx hb (okX12_flyer (110, .isub, 1) (List.mem_of_getElem? (i := 58) rfl)) ?_
            obtain ⟨hr12, hM⟩ := hM
            exact sk_iret hx hb hr0 hlocks hK hw hr12 hM (okX12_flyer (111, .ireturn, 1) (List.mem_of_getElem? (i := 59) rfl))
          · have hM := hM.2 c59
            refine lv_bipush (v := iI (-4)) hx hb (okX12_flyer (62, .bipush (-4), 2) (List.mem_of_getElem? (i := 29) rfl)) (by decide +kernel) ?_
            exact sk_iret hx hb hr0 hlocks hK hw (by decide) hM (okX12_flyer (64, .ireturn, 1) (List.mem_of_getElem? (i := 30) rfl))
        · have hM := hM.2 c47
          refine lv_bipush (v := iI (-3)) hx hb (okX12_flyer (50, .bipush (-3), 2) (List.mem_of_getElem? (i := 23) rfl)) (by decide +kernel) ?_
          exact sk_iret hx hb hr0 hlocks hK hw (by decide) hM (okX12_flyer (52, .ireturn, 1) (List.mem_of_getElem? (i := 24) rfl))
      · have hM := hM.2 c37
        refine lv_bipush (v := iI (-2)) hx hb (okX12_flyer (40, .bipush (-2), 2) (List.mem_of_getElem? (i := 18) rfl)) (by decide +kernel) ?_
        exact sk_iret hx hb hr0 hlocks hK hw (by decide) hM (okX12_flyer (42, .ireturn, 1) (List.mem_of_getElem? (i := 19) rfl))
def rmX12_gap : Room := { frames := 1, cells := 0, slots := 0, locals := 57 }
set_option maxHeartbeats 4000000 in
set_option maxRecDepth 100000 in
theorem c_Mo_gap (l : Launch) (G : sk_G) {p1 : Int} (hr_p1 : rI p1) {Q : Int → sk_S → Prop} {I : sk_S} (hM : M_Mo_gap p1 Q I) : Met l yX12_gap wsX12_gap rmX12_gap (va_Pc [.ref (sk_ad G 158), .int (iI p1)] (sk_U G 198 sk_t I)) (sk_Qi G 198 sk_t Q) 0 0 (sk_A G) := by
  refine Met.ofW (cc := cX12_gap) (maxL := 3) (ret := (some .int)) (by decide) rfl ?_
  intro p e s m args below meth c s₁ B hml hv
  obtain ⟨rfl, hU, hK⟩ := hv
  have hx := B.exec
  have hb := B.bytes
  have hr0 := B.returns
  have hts := atoms_spec (ws := wsX12_gap) B.pre
  have hown : s.vm.findClass RX12 = some m.cls := findClass_of_methodNamed B.named
  have hlocks := B.notSynchronized
  have S : CallFix p m c cX12_gap 3 s ([.ref (sk_ad G 158), .int (iI p1)].toArray) wsX12_gap RX12 := ⟨hx, hb, hml, hown, hts⟩
  have hL0 := hts (.constantLong RX12 208 (100)) (by decide +kernel)
  have hL1 := hts (.fieldLink RX12 34 "SkyLightsModel" "gap" "I") (by decide +kernel)
  have hI12 : ∀ w ∈ u_ws RX12 TX12 53, w ∈ wsX12_gap := by decide +kernel
  have hw : sk_W G 198 sk_t I s s.heap [] := ⟨hU, va_S.rf⟩
  have hl := lv_entry ([.ref (sk_ad G 158), .int (iI p1)]) (n := 3) (Nat.le_of_ble_eq_true rfl)
  rw [lg_entry_eq]
  generalize (lg_sl ([.ref (sk_ad G 158), .int (iI p1)]) ++ List.replicate (3 - (lg_sl ([.ref (sk_ad G 158), .int (iI p1)])).length) Slot.unset).toArray = ls at hl ⊢
  have hl : lv_has ls 3 [(0, .ref (sk_ad G 158)), (1, .int (iI p1))] := hl
  suffices hgo : ∀ (H : Heap) (locs : List Loc), sk_W G 198 sk_t I s H locs → W p l e (headSpec wsX12_gap rmX12_gap).room s m ([.ref (sk_ad G 158), .int (iI p1)].toArray) below meth c H locs 0 0 (MQ below (sk_Qi G 198 sk_t Q) ([.ref (sk_ad G 158), .int (iI p1)].toArray) s 0 0 (sk_A G)) (F0 m 0 ls []) from hgo _ _ hw
  unfold M_Mo_gap at hM
  intro H locs hw
  refine lv_iload_n hx hb (okX12_gap (0, .iload_n 1, 1) (List.mem_of_getElem? (i := 0) rfl)) rfl (lv_at hl 1 rfl) ?_
  refine sk_i2l hx hb hr_p1 (okX12_gap (1, .i2l, 1) (List.mem_of_getElem? (i := 1) rfl)) ?_
  refine lv_lconst (v := lI 0) hx hb (okX12_gap (2, .lconst 0, 1) (List.mem_of_getElem? (i := 2) rfl)) (by decide +kernel) ?_
  refine lv_ldc2 (v := lI 100) hx hb hown (by rw [show lI 100 = (100 : Int64) from by decide +kernel]; exact hL0) (okX12_gap (3, .ldc2_w 208, 3) (List.mem_of_getElem? (i := 3) rfl)) ?_
  refine sk_ci (sk_runS (As := [.long (lI p1), .long (lI 0), .long (lI 100)]) (rest := []) S (c_Mo_isIn l G ⟨Int.le_trans (by decide) (hr_p1).1, Int.lt_trans (hr_p1).2 (by decide)⟩ (by decide) (by decide) hM) sk_blind gX12_gap_X12_isIn rfl hdX12_isIn ⟨⟨rfl, rfl⟩, Nat.le_of_ble_eq_true rfl, Nat.le_of_ble_eq_true rfl⟩ (sk_pre hK hw) rfl hl.1 rfl (Nat.le_of_ble_eq_true rfl) (okX12_gap (6, .invokestatic 150, 3) (List.mem_of_getElem? (i := 4) rfl)) ⟨Nat.zero_le _, Nat.zero_le _⟩) hw (fun r_6 I_6 H locs hr_r_6 hM hw => ?_)
  obtain ⟨hb_r_6, hM⟩ := hM
  refine sk_if_ne (tgt := 15) hx hb hr_r_6 (okX12_gap (9, .ifCond .ne 6, 3) (List.mem_of_getElem? (i := 5) rfl)) (by decide) (fun c9 => ?_) (fun c9 => ?_)
  · have hM := hM.1 c9
    refine lv_aload_n hx hb (okX12_gap (15, .aload_n 0, 1) (List.mem_of_getElem? (i := 8) rfl)) rfl (lv_at hl 0 rfl) ?_
    have hr1 := hw.1.2.2 158 10
    refine sk_geti S hK hw kdn_158 (kd_in kdn_158) (C := RX12) (T := TX12) (N := 53) rfl hI12 10 ⟨by decide, rfl, by decide, rfl⟩ rfl (k' := 10) rfl hL1 (okX12_gap (16, .getfield 34, 3) (List.mem_of_getElem? (i := 9) rfl)) ?_
    refine sk_nm (fun v2_19 ev2_19 => ?_)
    have hM := hM v2_19 ev2_19
    have hr_v2_19 : rI v2_19 := by rw [ev2_19]; exact hr1
    refine lv_istore_n (lv' := [(2, .int (iI v2_19)), (0, .ref (sk_ad G 158)), (1, .int (iI p1))]) hx hb (okX12_gap (19, .istore_n 2, 1) (List.mem_of_getElem? (i := 10) rfl)) rfl hl (by decide) rfl (fun ls hl => ?_)
    refine lv_aload_n hx hb (okX12_gap (20, .aload_n 0, 1) (List.mem_of_getElem? (i := 11) rfl)) rfl (lv_at hl 1 rfl) ?_
    refine lv_iload_n hx hb (okX12_gap (21, .iload_n 1, 1) (List.mem_of_getElem? (i := 12) rfl)) rfl (lv_at hl 2 rfl) ?_
    refine sk_put S hK hw kdn_158 (kd_in kdn_158) (C := RX12) (T := TX12) (N := 53) rfl hI12 tyX12 tyX12_ok nmX12 10 ⟨by decide, rfl, by decide, rfl⟩ rfl rfl (k' := 10) rfl hr_p1 ⟨rfl, rfl⟩ hL1 (okX12_gap (22, .putfield 34, 3) (List.mem_of_getElem? (i := 13) rfl)) (fun H locs hw => ?_)
    refine lv_iload_n hx hb (okX12_gap (25, .iload_n 2, 1) (List.mem_of_getElem? (i := 14) rfl)) rfl (lv_at hl 0 rfl) ?_
    exact sk_iret hx hb hr0 hlocks hK hw hr_v2_19 hM (okX12_gap (26, .ireturn, 1) (List.mem_of_getElem? (i := 15) rfl))
  · have hM := hM.2 c9
    refine lv_bipush (v := iI (-2)) hx hb (okX12_gap (12, .bipush (-2), 2) (List.mem_of_getElem? (i := 6) rfl)) (by decide +kernel) ?_
    exact sk_iret hx hb hr0 hlocks hK hw (by decide) hM (okX12_gap (14, .ireturn, 1) (List.mem_of_getElem? (i := 7) rfl))
def rmX12_goes : Room := { frames := 1, cells := 0, slots := 0, locals := 53 }
set_option maxHeartbeats 4000000 in
set_option maxRecDepth 100000 in
theorem c_Mo_goes (l : Launch) (G : sk_G) {p1 : Int} (hr_p1 : rI p1) {Q : Int → sk_S → Prop} {I : sk_S} (hM : M_Mo_goes p1 Q I) : Met l yX12_goes wsX12_goes rmX12_goes (va_Pc [.ref (sk_ad G 158), .int (iI p1)] (sk_U G 198 sk_t I)) (sk_Qi G 198 sk_t Q) 0 0 (sk_A G) := by
  refine Met.ofW (cc := cX12_goes) (maxL := 2) (ret := (some .int)) (by decide) rfl ?_
  intro p e s m args below meth c s₁ B hml hv
  obtain ⟨rfl, hU, hK⟩ := hv
  have hx := B.exec
  have hb := B.bytes
  have hr0 := B.returns
  have hts := atoms_spec (ws := wsX12_goes) B.pre
  have hown : s.vm.findClass RX12 = some m.cls := findClass_of_methodNamed B.named
  have hlocks := B.notSynchronized
  have S : CallFix p m c cX12_goes 2 s ([.ref (sk_ad G 158), .int (iI p1)].toArray) wsX12_goes RX12 := ⟨hx, hb, hml, hown, hts⟩
  have hL0 := hts (.fieldLink RX12 68 "SkyLightsModel" "goes" "[I") (by decide +kernel)
  have hI12 : ∀ w ∈ u_ws RX12 TX12 53, w ∈ wsX12_goes := by decide +kernel
  have hw : sk_W G 198 sk_t I s s.heap [] := ⟨hU, va_S.rf⟩
  have hl := lv_entry ([.ref (sk_ad G 158), .int (iI p1)]) (n := 2) (Nat.le_of_ble_eq_true rfl)
  rw [lg_entry_eq]
  generalize (lg_sl ([.ref (sk_ad G 158), .int (iI p1)]) ++ List.replicate (2 - (lg_sl ([.ref (sk_ad G 158), .int (iI p1)])).length) Slot.unset).toArray = ls at hl ⊢
  have hl : lv_has ls 2 [(0, .ref (sk_ad G 158)), (1, .int (iI p1))] := hl
  suffices hgo : ∀ (H : Heap) (locs : List Loc), sk_W G 198 sk_t I s H locs → W p l e (headSpec wsX12_goes rmX12_goes).room s m ([.ref (sk_ad G 158), .int (iI p1)].toArray) below meth c H locs 0 0 (MQ below (sk_Qi G 198 sk_t Q) ([.ref (sk_ad G 158), .int (iI p1)].toArray) s 0 0 (sk_A G)) (F0 m 0 ls []) from hgo _ _ hw
  unfold M_Mo_goes at hM
  intro H locs hw
  refine lv_aload_n hx hb (okX12_goes (0, .aload_n 0, 1) (List.mem_of_getElem? (i := 0) rfl)) rfl (lv_at hl 0 rfl) ?_
  refine lv_iload_n hx hb (okX12_goes (1, .iload_n 1, 1) (List.mem_of_getElem? (i := 1) rfl)) rfl (lv_at hl 1 rfl) ?_
  refine sk_ci (sk_runV (a := 158) (C := RX12) (As := [.int (iI p1)]) (rest := []) S (c_Mo_isOfPass l G hr_p1 hM) sk_blind gX12_goes_X12_isOfPass rfl hdX12_isOfPass ⟨⟨rfl, rfl⟩, Nat.le_of_ble_eq_true rfl, Nat.le_of_ble_eq_true rfl⟩ (sk_recv hK hw kdn_158 (kd_in kdn_158) (by decide) rfl) (sk_pre hK hw) rfl hl.1 rfl (Nat.le_of_ble_eq_true rfl) (okX12_goes (2, .invokevirtual 260, 3) (List.mem_of_getElem? (i := 2) rfl)) ⟨Nat.zero_le _, Nat.zero_le _⟩) hw (fun r_2 I_2 H locs hr_r_2 hM hw => ?_)
  obtain ⟨hb_r_2, hM⟩ := hM
  refine sk_if_eq (tgt := 17) hx hb hr_r_2 (okX12_goes (5, .ifCond .eq 12, 3) (List.mem_of_getElem? (i := 3) rfl)) (by decide) (fun c5 => ?_) (fun c5 => ?_)
  · have hM := hM.1 c5
    refine lv_iconst (v := iI (-1)) hx hb (okX12_goes (17, .iconst (-1), 1) (List.mem_of_getElem? (i := 9) rfl)) rfl ?_
    exact sk_iret hx hb hr0 hlocks hK hw (by decide) hM (okX12_goes (18, .ireturn, 1) (List.mem_of_getElem? (i := 10) rfl))
  · have hM := hM.2 c5
    refine lv_aload_n hx hb (okX12_goes (8, .aload_n 0, 1) (List.mem_of_getElem? (i := 4) rfl)) rfl (lv_at hl 0 rfl) ?_
    refine sk_getr (b := 177) S hK hw kdn_158 (kd_in kdn_158) (C := RX12) (T := TX12) (N := 53) rfl hI12 27 ⟨by decide, rfl, by decide, rfl⟩ rfl (k' := 27) rfl rfl (by decide +kernel) hL0 (okX12_goes (9, .getfield 68, 3) (List.mem_of_getElem? (i := 5) rfl)) ?_
    refine lv_iload_n hx hb (okX12_goes (12, .iload_n 1, 1) (List.mem_of_getElem? (i := 6) rfl)) rfl (lv_at hl 1 rfl) ?_
    obtain ⟨hi1, hM⟩ := hM
    have hr2 := hw.1.2.2 177 p1
    refine sk_ild S hK hw kdn_177 (kd_in kdn_177) (by rw [lnn_177]; exact hi1) (okX12_goes (13, .iaload, 1) (List.mem_of_getElem? (i := 7) rfl)) ?_
    refine lv_goto (tgt := 18) hx hb (okX12_goes (14, .goto 4, 3) (List.mem_of_getElem? (i := 8) rfl)) (by decide) ?_
    exact sk_iret hx hb hr0 hlocks hK hw hr2 hM (okX12_goes (18, .ireturn, 1) (List.mem_of_getElem? (i := 10) rfl))
def rmX12_heightIn : Room := { frames := 0, cells := 0, slots := 0, locals := 0 }
set_option maxHeartbeats 4000000 in
set_option maxRecDepth 100000 in
theorem c_Mo_heightIn (l : Launch) (G : sk_G) {p1 p2 : Int} (hr_p1 : rI p1) (hr_p2 : rI p2) {Q : Int → sk_S → Prop} {I : sk_S} (hM : M_Mo_heightIn p1 p2 Q I) : Met l yX12_heightIn wsX12_heightIn rmX12_heightIn (va_Pc [.ref (sk_ad G 158), .int (iI p1), .int (iI p2)] (sk_U G 198 sk_t I)) (sk_Qi G 198 sk_t Q) 0 0 (sk_A G) := by
  refine Met.ofW (cc := cX12_heightIn) (maxL := 3) (ret := (some .int)) (by decide) rfl ?_
  intro p e s m args below meth c s₁ B hml hv
  obtain ⟨rfl, hU, hK⟩ := hv
  have hx := B.exec
  have hb := B.bytes
  have hr0 := B.returns
  have hts := atoms_spec (ws := wsX12_heightIn) B.pre
  have hown : s.vm.findClass RX12 = some m.cls := findClass_of_methodNamed B.named
  have hlocks := B.notSynchronized
  have S : CallFix p m c cX12_heightIn 3 s ([.ref (sk_ad G 158), .int (iI p1), .int (iI p2)].toArray) wsX12_heightIn RX12 := ⟨hx, hb, hml, hown, hts⟩
  have hL0 := hts (.fieldLink RX12 28 "SkyLightsModel" "pointZ" "[I") (by decide +kernel)
  have hL1 := hts (.fieldLink RX12 92 "SkyLightsModel" "sceneFigure" "[I") (by decide +kernel)
  have hL2 := hts (.fieldLink RX12 104 "SkyLightsModel" "standsAt" "[I") (by decide +kernel)
  have hI12 : ∀ w ∈ u_ws RX12 TX12 53, w ∈ wsX12_heightIn := by decide +kernel
  have hw : sk_W G 198 sk_t I s s.heap [] := ⟨hU, va_S.rf⟩
  have hl := lv_entry ([.ref (sk_ad G 158), .int (iI p1), .int (iI p2)]) (n := 3) (Nat.le_of_ble_eq_true rfl)
  rw [lg_entry_eq]
  generalize (lg_sl ([.ref (sk_ad G 158), .int (iI p1), .int (iI p2)]) ++ List.replicate (3 - (lg_sl ([.ref (sk_ad G 158), .int (iI p1), .int (iI p2)])).length) Slot.unset).toArray = ls at hl ⊢
  have hl : lv_has ls 3 [(0, .ref (sk_ad G 158)), (1, .int (iI p1)), (2, .int (iI p2))] := hl
  suffices hgo : ∀ (H : Heap) (locs : List Loc), sk_W G 198 sk_t I s H locs → W p l e (headSpec wsX12_heightIn rmX12_heightIn).room s m ([.ref (sk_ad G 158), .int (iI p1), .int (iI p2)].toArray) below meth c H locs 0 0 (MQ below (sk_Qi G 198 sk_t Q) ([.ref (sk_ad G 158), .int (iI p1), .int (iI p2)].toArray) s 0 0 (sk_A G)) (F0 m 0 ls []) from hgo _ _ hw
  unfold M_Mo_heightIn at hM
  intro H locs hw
  refine lv_iload_n hx hb (okX12_heightIn (0, .iload_n 2, 1) (List.mem_of_getElem? (i := 0) rfl)) rfl (lv_at hl 2 rfl) ?_
  refine sk_if_ge (tgt := 8) hx hb hr_p2 (okX12_heightIn (1, .ifCond .ge 7, 3) (List.mem_of_getElem? (i := 1) rfl)) (by decide) (fun c1 => ?_) (fun c1 => ?_)
  · have hM := hM.1 c1
    refine lv_aload_n hx hb (okX12_heightIn (8, .aload_n 0, 1) (List.mem_of_getElem? (i := 4) rfl)) rfl (lv_at hl 0 rfl) ?_
    refine sk_getr (b := 165) S hK hw kdn_158 (kd_in kdn_158) (C := RX12) (T := TX12) (N := 53) rfl hI12 6 ⟨by decide, rfl, by decide, rfl⟩ rfl (k' := 6) rfl rfl (by decide +kernel) hL0 (okX12_heightIn (9, .getfield 28, 3) (List.mem_of_getElem? (i := 5) rfl)) ?_
    refine lv_bipush (v := iI 10) hx hb (okX12_heightIn (12, .bipush 10, 2) (List.mem_of_getElem? (i := 6) rfl)) (by decide +kernel) ?_
    refine lv_aload_n hx hb (okX12_heightIn (14, .aload_n 0, 1) (List.mem_of_getElem? (i := 7) rfl)) rfl (lv_at hl 0 rfl) ?_
    refine sk_getr (b := 185) S hK hw kdn_158 (kd_in kdn_158) (C := RX12) (T := TX12) (N := 53) rfl hI12 35 ⟨by decide, rfl, by decide, rfl⟩ rfl (k' := 35) rfl rfl (by decide +kernel) hL1 (okX12_heightIn (15, .getfield 92, 3) (List.mem_of_getElem? (i := 8) rfl)) ?_
    refine lv_iload_n hx hb (okX12_heightIn (18, .iload_n 2, 1) (List.mem_of_getElem? (i := 9) rfl)) rfl (lv_at hl 2 rfl) ?_
    obtain ⟨hi1, hM⟩ := hM
    have hr2 := hw.1.2.2 185 p2
    refine sk_ild S hK hw kdn_185 (kd_in kdn_185) (by rw [lnn_185]; exact hi1) (okX12_heightIn (19, .iaload, 1) (List.mem_of_getElem? (i := 10) rfl)) ?_
    refine sk_imul hx hb (okX12_heightIn (20, .imul, 1) (List.mem_of_getElem? (i := 11) rfl)) ?_
    refine lv_aload_n hx hb (okX12_heightIn (21, .aload_n 0, 1) (List.mem_of_getElem? (i := 12) rfl)) rfl (lv_at hl 0 rfl) ?_
    refine sk_getr (b := 189) S hK hw kdn_158 (kd_in kdn_158) (C := RX12) (T := TX12) (N := 53) rfl hI12 39 ⟨by decide, rfl, by decide, rfl⟩ rfl (k' := 39) rfl rfl (by decide +kernel) hL2 (okX12_heightIn (22, .getfield 104, 3) (List.mem_of_getElem? (i := 13) rfl)) ?_
    refine lv_bipush (v := iI 10) hx hb (okX12_heightIn (25, .bipush 10, 2) (List.mem_of_getElem? (i := 14) rfl)) (by decide +kernel) ?_
    refine lv_iload_n hx hb (okX12_heightIn (27, .iload_n 2, 1) (List.mem_of_getElem? (i := 15) rfl)) rfl (lv_at hl 2 rfl) ?_
    refine sk_imul hx hb (okX12_heightIn (28, .imul, 1) (List.mem_of_getElem? (i := 16) rfl)) ?_
    refine lv_iload_n hx hb (okX12_heightIn (29, .iload_n 1, 1) (List.mem_of_getElem? (i := 17) rfl)) rfl (lv_at hl 1 rfl) ?_
    refine sk_iadd hx hb (okX12_heightIn (30, .iadd, 1) (List.mem_of_getElem? (i := 18) rfl)) ?_
    obtain ⟨hi3, hM⟩ := hM
    have hr4 := hw.1.2.2 189 ((10 * p2) + p1)
    refine sk_ild S hK hw kdn_189 (kd_in kdn_189) (by rw [lnn_189]; exact hi3) (okX12_heightIn (31, .iaload, 1) (List.mem_of_getElem? (i := 19) rfl)) ?_
    refine sk_iadd hx hb (okX12_heightIn (32, .iadd, 1) (List.mem_of_getElem? (i := 20) rfl)) ?_
    obtain ⟨hi5, hM⟩ := hM
    have hr6 := hw.1.2.2 165 ((10 * (I 185 p2)) + (I 189 ((10 * p2) + p1)))
    refine sk_ild S hK hw kdn_165 (kd_in kdn_165) (by rw [lnn_165]; exact hi5) (okX12_heightIn (33, .iaload, 1) (List.mem_of_getElem? (i := 21) rfl)) ?_
    exact sk_iret hx hb hr0 hlocks hK hw hr6 hM (okX12_heightIn (34, .ireturn, 1) (List.mem_of_getElem? (i := 22) rfl))
  · have hM := hM.2 c1
    refine lv_iconst (v := iI 0) hx hb (okX12_heightIn (4, .iconst 0, 1) (List.mem_of_getElem? (i := 2) rfl)) rfl ?_
    refine lv_goto (tgt := 34) hx hb (okX12_heightIn (5, .goto 29, 3) (List.mem_of_getElem? (i := 3) rfl)) (by decide) ?_
    exact sk_iret hx hb hr0 hlocks hK hw (by decide) hM (okX12_heightIn (34, .ireturn, 1) (List.mem_of_getElem? (i := 22) rfl))
def rmX12_isFigure : Room := { frames := 0, cells := 0, slots := 0, locals := 0 }
set_option maxHeartbeats 4000000 in
set_option maxRecDepth 100000 in
theorem c_Mo_isFigure (l : Launch) (G : sk_G) {p1 : Int} (hr_p1 : rI p1) {Q : Int → sk_S → Prop} {I : sk_S} (hM : M_Mo_isFigure p1 Q I) : Met l yX12_isFigure wsX12_isFigure rmX12_isFigure (va_Pc [.ref (sk_ad G 158), .int (iI p1)] (sk_U G 198 sk_t I)) (sk_Qz G 198 sk_t Q) 0 0 (sk_A G) := by
  refine Met.ofW (cc := cX12_isFigure) (maxL := 2) (ret := (some .boolean)) (by decide) rfl ?_
  intro p e s m args below meth c s₁ B hml hv
  obtain ⟨rfl, hU, hK⟩ := hv
  have hx := B.exec
  have hb := B.bytes
  have hr0 := B.returns
  have hts := atoms_spec (ws := wsX12_isFigure) B.pre
  have hown : s.vm.findClass RX12 = some m.cls := findClass_of_methodNamed B.named
  have hlocks := B.notSynchronized
  have S : CallFix p m c cX12_isFigure 2 s ([.ref (sk_ad G 158), .int (iI p1)].toArray) wsX12_isFigure RX12 := ⟨hx, hb, hml, hown, hts⟩
  have hL0 := hts (.fieldLink RX12 143 "SkyLightsModel" "figures" "I") (by decide +kernel)
  have hI12 : ∀ w ∈ u_ws RX12 TX12 53, w ∈ wsX12_isFigure := by decide +kernel
  have hw : sk_W G 198 sk_t I s s.heap [] := ⟨hU, va_S.rf⟩
  have hl := lv_entry ([.ref (sk_ad G 158), .int (iI p1)]) (n := 2) (Nat.le_of_ble_eq_true rfl)
  rw [lg_entry_eq]
  generalize (lg_sl ([.ref (sk_ad G 158), .int (iI p1)]) ++ List.replicate (2 - (lg_sl ([.ref (sk_ad G 158), .int (iI p1)])).length) Slot.unset).toArray = ls at hl ⊢
  have hl : lv_has ls 2 [(0, .ref (sk_ad G 158)), (1, .int (iI p1))] := hl
  suffices hgo : ∀ (H : Heap) (locs : List Loc), sk_W G 198 sk_t I s H locs → W p l e (headSpec wsX12_isFigure rmX12_isFigure).room s m ([.ref (sk_ad G 158), .int (iI p1)].toArray) below meth c H locs 0 0 (MQ below (sk_Qz G 198 sk_t Q) ([.ref (sk_ad G 158), .int (iI p1)].toArray) s 0 0 (sk_A G)) (F0 m 0 ls []) from hgo _ _ hw
  unfold M_Mo_isFigure at hM
  intro H locs hw
  refine lv_iload_n hx hb (okX12_isFigure (0, .iload_n 1, 1) (List.mem_of_getElem? (i := 0) rfl)) rfl (lv_at hl 1 rfl) ?_
  refine sk_if_lt (tgt := 16) hx hb hr_p1 (okX12_isFigure (1, .ifCond .lt 15, 3) (List.mem_of_getElem? (i := 1) rfl)) (by decide) (fun c1 => ?_) (fun c1 => ?_)
  · have hM := hM.1 c1
    refine lv_iconst (v := iI 0) hx hb (okX12_isFigure (16, .iconst 0, 1) (List.mem_of_getElem? (i := 8) rfl)) rfl ?_
    exact sk_zret hx hb hr0 hlocks hK hw (Or.inl rfl) hM (okX12_isFigure (17, .ireturn, 1) (List.mem_of_getElem? (i := 9) rfl))
  · have hM := hM.2 c1
    refine lv_iload_n hx hb (okX12_isFigure (4, .iload_n 1, 1) (List.mem_of_getElem? (i := 2) rfl)) rfl (lv_at hl 1 rfl) ?_
    refine lv_aload_n hx hb (okX12_isFigure (5, .aload_n 0, 1) (List.mem_of_getElem? (i := 3) rfl)) rfl (lv_at hl 0 rfl) ?_
    have hr1 := hw.1.2.2 158 9
    refine sk_geti S hK hw kdn_158 (kd_in kdn_158) (C := RX12) (T := TX12) (N := 53) rfl hI12 9 ⟨by decide, rfl, by decide, rfl⟩ rfl (k' := 9) rfl hL0 (okX12_isFigure (6, .getfield 143, 3) (List.mem_of_getElem? (i := 4) rfl)) ?_
    refine sk_icmp_ge (tgt := 16) hx hb hr_p1 hr1 (okX12_isFigure (9, .if_icmp .ge 7, 3) (List.mem_of_getElem? (i := 5) rfl)) (by decide) (fun c9 => ?_) (fun c9 => ?_)
    · have hM := hM.1 c9
      refine lv_iconst (v := iI 0) hx hb (okX12_isFigure (16, .iconst 0, 1) (List.mem_of_getElem? (i := 8) rfl)) rfl ?_
      exact sk_zret hx hb hr0 hlocks hK hw (Or.inl rfl) hM (okX12_isFigure (17, .ireturn, 1) (List.mem_of_getElem? (i := 9) rfl))
    · have hM := hM.2 c9
      refine lv_iconst (v := iI 1) hx hb (okX12_isFigure (12, .iconst 1, 1) (List.mem_of_getElem? (i := 6) rfl)) rfl ?_
      refine lv_goto (tgt := 17) hx hb (okX12_isFigure (13, .goto 4, 3) (List.mem_of_getElem? (i := 7) rfl)) (by decide) ?_
      exact sk_zret hx hb hr0 hlocks hK hw (Or.inr rfl) hM (okX12_isFigure (17, .ireturn, 1) (List.mem_of_getElem? (i := 9) rfl))
def rmX12_looksAt : Room := { frames := 2, cells := 0, slots := 0, locals := 112 }
set_option maxHeartbeats 4000000 in
set_option maxRecDepth 100000 in
theorem c_Mo_looksAt (l : Launch) (G : sk_G) {p1 : Int} (hr_p1 : rI p1) {Q : sk_S → Prop} {I : sk_S} (hM : M_Mo_looksAt p1 Q I) : Met l yX12_looksAt wsX12_looksAt rmX12_looksAt (va_Pc [.ref (sk_ad G 158), .int (iI p1)] (sk_U G 198 sk_t I)) (sk_Qv G 198 sk_t Q) 0 0 (sk_A G) := by
  refine Met.ofW (cc := cX12_looksAt) (maxL := 4) (ret := none) (by decide) rfl ?_
  intro p e s m args below meth c s₁ B hml hv
  obtain ⟨rfl, hU, hK⟩ := hv
  have hx := B.exec
  have hb := B.bytes
  have hr0 := B.returns
  have hts := atoms_spec (ws := wsX12_looksAt) B.pre
  have hown : s.vm.findClass RX12 = some m.cls := findClass_of_methodNamed B.named
  have hlocks := B.notSynchronized
  have S : CallFix p m c cX12_looksAt 4 s ([.ref (sk_ad G 158), .int (iI p1)].toArray) wsX12_looksAt RX12 := ⟨hx, hb, hml, hown, hts⟩
  have hL0 := hts (.fieldLink RX12 156 "SkyLightsModel" "scenes" "I") (by decide +kernel)
  have hL1 := hts (.fieldLink RX12 92 "SkyLightsModel" "sceneFigure" "[I") (by decide +kernel)
  have hL2 := hts (.fieldLink RX12 95 "SkyLightsModel" "sceneTicks" "[I") (by decide +kernel)
  have hI12 : ∀ w ∈ u_ws RX12 TX12 53, w ∈ wsX12_looksAt := by decide +kernel
  have hw : sk_W G 198 sk_t I s s.heap [] := ⟨hU, va_S.rf⟩
  have hl := lv_entry ([.ref (sk_ad G 158), .int (iI p1)]) (n := 4) (Nat.le_of_ble_eq_true rfl)
  rw [lg_entry_eq]
  generalize (lg_sl ([.ref (sk_ad G 158), .int (iI p1)]) ++ List.replicate (4 - (lg_sl ([.ref (sk_ad G 158), .int (iI p1)])).length) Slot.unset).toArray = ls at hl ⊢
  have hl : lv_has ls 4 [(0, .ref (sk_ad G 158)), (1, .int (iI p1))] := hl
  suffices hgo : ∀ (H : Heap) (locs : List Loc), sk_W G 198 sk_t I s H locs → W p l e (headSpec wsX12_looksAt rmX12_looksAt).room s m ([.ref (sk_ad G 158), .int (iI p1)].toArray) below meth c H locs 0 0 (MQ below (sk_Qv G 198 sk_t Q) ([.ref (sk_ad G 158), .int (iI p1)].toArray) s 0 0 (sk_A G)) (F0 m 0 ls []) from hgo _ _ hw
  have hJ_46 : ∀ (v1 v2 s1 s2 s3 : Int) (I : sk_S), rI v1 → rI v2 → rI s1 → rI s2 → rI s3 → J_Mo_looksAt_46 v1 v2 s1 s2 s3 Q I → ∀ (H : Heap) (locs : List Loc) (ls : Array Slot), sk_W G 198 sk_t I s H locs → lv_has ls 4 [(0, .ref (sk_ad G 158)), (1, .int (iI v1)), (2, .int (iI v2))] → W p l e (headSpec wsX12_looksAt rmX12_looksAt).room s m ([.ref (sk_ad G 158), .int (iI p1)].toArray) below meth c H locs 0 0 (MQ below (sk_Qv G 198 sk_t Q) ([.ref (sk_ad G 158), .int (iI p1)].toArray) s 0 0 (sk_A G)) (F0 m 46 ls [.int (iI s3), .int (iI s2), .int (iI s1), .ref (sk_ad G 158)]) := by
    intro v1 v2 s1 s2 s3 I hr_v1 hr_v2 hr_s1 hr_s2 hr_s3 hM H locs ls hw hl
    unfold J_Mo_looksAt_46 at hM
    refine lv_iload_n hx hb (okX12_looksAt (46, .iload_n 2, 1) (List.mem_of_getElem? (i := 28) rfl)) rfl (lv_at hl 2 rfl) ?_
    refine sk_if_eq (tgt := 61) hx hb hr_v2 (okX12_looksAt (47, .ifCond .eq 14, 3) (List.mem_of_getElem? (i := 29) rfl)) (by decide) (fun c47 => ?_) (fun c47 => ?_)
    · have hM := hM.1 c47
      refine lv_aload_n hx hb (okX12_looksAt (61, .aload_n 0, 1) (List.mem_of_getElem? (i := 37) rfl)) rfl (lv_at hl 0 rfl) ?_
      refine sk_getr (b := 186) S hK hw kdn_158 (kd_in kdn_158) (C := RX12) (T := TX12) (N := 53) rfl hI12 36 ⟨by decide, rfl, by decide, rfl⟩ rfl (k' := 36) rfl rfl (by decide +kernel) hL2 (okX12_looksAt (62, .getfield 95, 3) (List.mem_of_getElem? (i := 38) rfl)) ?_
      refine lv_iload_n hx hb (okX12_looksAt (65, .iload_n 1, 1) (List.mem_of_getElem? (i := 39) rfl)) rfl (lv_at hl 1 rfl) ?_
      obtain ⟨hi6, hM⟩ := hM
      have hr7 := hw.1.2.2 186 v1
      refine sk_ild S hK hw kdn_186 (kd_in kdn_186) (by rw [lnn_186]; exact hi6) (okX12_looksAt (66, .iaload, 1) (List.mem_of_getElem? (i := 40) rfl)) ?_
      refine sk_cv (sk_runV (a := 158) (C := RX12) (As := [.int (iI s1), .int (iI s2), .int (iI s3), .int (iI (I 186 v1))]) (rest := []) S (c_Mo_begins l G hr_s1 hr_s2 hr_s3 hr7 hM) sk_blind gX12_looksAt_X12_begins rfl hdX12_begins ⟨⟨rfl, rfl⟩, Nat.le_of_ble_eq_true rfl, Nat.le_of_ble_eq_true rfl⟩ (sk_recv hK hw kdn_158 (kd_in kdn_158) (by decide) rfl) (sk_pre hK hw) rfl hl.1 rfl (Nat.le_of_ble_eq_true rfl) (okX12_looksAt (67, .invokevirtual 253, 3) (List.mem_of_getElem? (i := 41) rfl)) ⟨Nat.zero_le _, Nat.zero_le _⟩) hw (fun I_67 H locs hM hw => ?_)
      refine lv_aload_n hx hb (okX12_looksAt (70, .aload_n 0, 1) (List.mem_of_getElem? (i := 42) rfl)) rfl (lv_at hl 0 rfl) ?_
      refine lv_iconst (v := iI 1) hx hb (okX12_looksAt (71, .iconst 1, 1) (List.mem_of_getElem? (i := 43) rfl)) rfl ?_
      refine sk_ci (sk_runV (a := 158) (C := RX12) (As := [.int (iI 1)]) (rest := []) S (c_Mo_assigns l G (by decide) hM) sk_blind gX12_looksAt_X12_assigns rfl hdX12_assigns ⟨⟨rfl, rfl⟩, Nat.le_of_ble_eq_true rfl, Nat.le_of_ble_eq_true rfl⟩ (sk_recv hK hw kdn_158 (kd_in kdn_158) (by decide) rfl) (sk_pre hK hw) rfl hl.1 rfl (Nat.le_of_ble_eq_true rfl) (okX12_looksAt (72, .invokevirtual 257, 3) (List.mem_of_getElem? (i := 44) rfl)) ⟨Nat.zero_le _, Nat.zero_le _⟩) hw (fun r_72 I_72 H locs hr_r_72 hM hw => ?_)
      refine lv_istore_n (lv' := [(3, .int (iI r_72)), (0, .ref (sk_ad G 158)), (1, .int (iI v1)), (2, .int (iI v2))]) hx hb (okX12_looksAt (75, .istore_n 3, 1) (List.mem_of_getElem? (i := 45) rfl)) rfl hl (by decide) rfl (fun ls hl => ?_)
      exact sk_vret hx hb hr0 hlocks hK hw hM (okX12_looksAt (76, .return_, 1) (List.mem_of_getElem? (i := 46) rfl))
    · have hM := hM.2 c47
      refine lv_aload_n hx hb (okX12_looksAt (50, .aload_n 0, 1) (List.mem_of_getElem? (i := 30) rfl)) rfl (lv_at hl 0 rfl) ?_
      refine sk_getr (b := 186) S hK hw kdn_158 (kd_in kdn_158) (C := RX12) (T := TX12) (N := 53) rfl hI12 36 ⟨by decide, rfl, by decide, rfl⟩ rfl (k' := 36) rfl rfl (by decide +kernel) hL2 (okX12_looksAt (51, .getfield 95, 3) (List.mem_of_getElem? (i := 31) rfl)) ?_
      refine lv_iload_n hx hb (okX12_looksAt (54, .iload_n 1, 1) (List.mem_of_getElem? (i := 32) rfl)) rfl (lv_at hl 1 rfl) ?_
      refine lv_iconst (v := iI 1) hx hb (okX12_looksAt (55, .iconst 1, 1) (List.mem_of_getElem? (i := 33) rfl)) rfl ?_
      refine sk_isub hx hb (okX12_looksAt (56, .isub, 1) (List.mem_of_getElem? (i := 34) rfl)) ?_
      obtain ⟨hi8, hM⟩ := hM
      have hr9 := hw.1.2.2 186 (v1 - 1)
      refine sk_ild S hK hw kdn_186 (kd_in kdn_186) (by rw [lnn_186]; exact hi8) (okX12_looksAt (57, .iaload, 1) (List.mem_of_getElem? (i := 35) rfl)) ?_
      refine lv_goto (tgt := 67) hx hb (okX12_looksAt (58, .goto 9, 3) (List.mem_of_getElem? (i := 36) rfl)) (by decide) ?_
      refine sk_cv (sk_runV (a := 158) (C := RX12) (As := [.int (iI s1), .int (iI s2), .int (iI s3), .int (iI (I 186 (v1 - 1)))]) (rest := []) S (c_Mo_begins l G hr_s1 hr_s2 hr_s3 hr9 hM) sk_blind gX12_looksAt_X12_begins rfl hdX12_begins ⟨⟨rfl, rfl⟩, Nat.le_of_ble_eq_true rfl, Nat.le_of_ble_eq_true rfl⟩ (sk_recv hK hw kdn_158 (kd_in kdn_158) (by decide) rfl) (sk_pre hK hw) rfl hl.1 rfl (Nat.le_of_ble_eq_true rfl) (okX12_looksAt (67, .invokevirtual 253, 3) (List.mem_of_getElem? (i := 41) rfl)) ⟨Nat.zero_le _, Nat.zero_le _⟩) hw (fun I_67 H locs hM hw => ?_)
      refine lv_aload_n hx hb (okX12_looksAt (70, .aload_n 0, 1) (List.mem_of_getElem? (i := 42) rfl)) rfl (lv_at hl 0 rfl) ?_
      refine lv_iconst (v := iI 1) hx hb (okX12_looksAt (71, .iconst 1, 1) (List.mem_of_getElem? (i := 43) rfl)) rfl ?_
      refine sk_ci (sk_runV (a := 158) (C := RX12) (As := [.int (iI 1)]) (rest := []) S (c_Mo_assigns l G (by decide) hM) sk_blind gX12_looksAt_X12_assigns rfl hdX12_assigns ⟨⟨rfl, rfl⟩, Nat.le_of_ble_eq_true rfl, Nat.le_of_ble_eq_true rfl⟩ (sk_recv hK hw kdn_158 (kd_in kdn_158) (by decide) rfl) (sk_pre hK hw) rfl hl.1 rfl (Nat.le_of_ble_eq_true rfl) (okX12_looksAt (72, .invokevirtual 257, 3) (List.mem_of_getElem? (i := 44) rfl)) ⟨Nat.zero_le _, Nat.zero_le _⟩) hw (fun r_72 I_72 H locs hr_r_72 hM hw => ?_)
      refine lv_istore_n (lv' := [(3, .int (iI r_72)), (0, .ref (sk_ad G 158)), (1, .int (iI v1)), (2, .int (iI v2))]) hx hb (okX12_looksAt (75, .istore_n 3, 1) (List.mem_of_getElem? (i := 45) rfl)) rfl hl (by decide) rfl (fun ls hl => ?_)
      exact sk_vret hx hb hr0 hlocks hK hw hM (okX12_looksAt (76, .return_, 1) (List.mem_of_getElem? (i := 46) rfl))
  have hJ_32 : ∀ (v1 v2 s1 s2 : Int) (I : sk_S), rI v1 → rI v2 → rI s1 → rI s2 → J_Mo_looksAt_32 v1 v2 s1 s2 Q I → ∀ (H : Heap) (locs : List Loc) (ls : Array Slot), sk_W G 198 sk_t I s H locs → lv_has ls 4 [(0, .ref (sk_ad G 158)), (1, .int (iI v1)), (2, .int (iI v2))] → W p l e (headSpec wsX12_looksAt rmX12_looksAt).room s m ([.ref (sk_ad G 158), .int (iI p1)].toArray) below meth c H locs 0 0 (MQ below (sk_Qv G 198 sk_t Q) ([.ref (sk_ad G 158), .int (iI p1)].toArray) s 0 0 (sk_A G)) (F0 m 32 ls [.int (iI s2), .int (iI s1), .ref (sk_ad G 158)]) := by
    intro v1 v2 s1 s2 I hr_v1 hr_v2 hr_s1 hr_s2 hM H locs ls hw hl
    unfold J_Mo_looksAt_32 at hM
    refine lv_iload_n hx hb (okX12_looksAt (32, .iload_n 2, 1) (List.mem_of_getElem? (i := 20) rfl)) rfl (lv_at hl 2 rfl) ?_
    refine sk_if_eq (tgt := 40) hx hb hr_v2 (okX12_looksAt (33, .ifCond .eq 7, 3) (List.mem_of_getElem? (i := 21) rfl)) (by decide) (fun c33 => ?_) (fun c33 => ?_)
    · have hM := hM.1 c33
      refine lv_aload_n hx hb (okX12_looksAt (40, .aload_n 0, 1) (List.mem_of_getElem? (i := 24) rfl)) rfl (lv_at hl 0 rfl) ?_
      refine sk_getr (b := 185) S hK hw kdn_158 (kd_in kdn_158) (C := RX12) (T := TX12) (N := 53) rfl hI12 35 ⟨by decide, rfl, by decide, rfl⟩ rfl (k' := 35) rfl rfl (by decide +kernel) hL1 (okX12_looksAt (41, .getfield 92, 3) (List.mem_of_getElem? (i := 25) rfl)) ?_
      refine lv_iload_n hx hb (okX12_looksAt (44, .iload_n 1, 1) (List.mem_of_getElem? (i := 26) rfl)) rfl (lv_at hl 1 rfl) ?_
      obtain ⟨hi4, hM⟩ := hM
      have hr5 := hw.1.2.2 185 v1
      refine sk_ild S hK hw kdn_185 (kd_in kdn_185) (by rw [lnn_185]; exact hi4) (okX12_looksAt (45, .iaload, 1) (List.mem_of_getElem? (i := 27) rfl)) ?_
      exact hJ_46 v1 v2 s1 s2 (I 185 v1) I hr_v1 hr_v2 hr_s1 hr_s2 hr5 hM H locs ls hw (lv_sub hl [0, 1, 2] rfl)
    · have hM := hM.2 c33
      refine lv_iconst (v := iI (-1)) hx hb (okX12_looksAt (36, .iconst (-1), 1) (List.mem_of_getElem? (i := 22) rfl)) rfl ?_
      refine lv_goto (tgt := 46) hx hb (okX12_looksAt (37, .goto 9, 3) (List.mem_of_getElem? (i := 23) rfl)) (by decide) ?_
      exact hJ_46 v1 v2 s1 s2 ((-1)) I hr_v1 hr_v2 hr_s1 hr_s2 (by decide) hM H locs ls hw (lv_sub hl [0, 1, 2] rfl)
  have hJ_13 : ∀ (v1 s0 : Int) (I : sk_S), rI v1 → rI s0 → J_Mo_looksAt_13 v1 s0 Q I → ∀ (H : Heap) (locs : List Loc) (ls : Array Slot), sk_W G 198 sk_t I s H locs → lv_has ls 4 [(0, .ref (sk_ad G 158)), (1, .int (iI v1))] → W p l e (headSpec wsX12_looksAt rmX12_looksAt).room s m ([.ref (sk_ad G 158), .int (iI p1)].toArray) below meth c H locs 0 0 (MQ below (sk_Qv G 198 sk_t Q) ([.ref (sk_ad G 158), .int (iI p1)].toArray) s 0 0 (sk_A G)) (F0 m 13 ls [.int (iI s0)]) := by
    intro v1 s0 I hr_v1 hr_s0 hM H locs ls hw hl
    unfold J_Mo_looksAt_13 at hM
    refine lv_istore_n (lv' := [(2, .int (iI s0)), (0, .ref (sk_ad G 158)), (1, .int (iI v1))]) hx hb (okX12_looksAt (13, .istore_n 2, 1) (List.mem_of_getElem? (i := 7) rfl)) rfl hl (by decide) rfl (fun ls hl => ?_)
    refine lv_aload_n hx hb (okX12_looksAt (14, .aload_n 0, 1) (List.mem_of_getElem? (i := 8) rfl)) rfl (lv_at hl 1 rfl) ?_
    refine lv_iconst (v := iI 1) hx hb (okX12_looksAt (15, .iconst 1, 1) (List.mem_of_getElem? (i := 9) rfl)) rfl ?_
    refine lv_iload_n hx hb (okX12_looksAt (16, .iload_n 1, 1) (List.mem_of_getElem? (i := 10) rfl)) rfl (lv_at hl 2 rfl) ?_
    refine sk_if_ne (tgt := 24) hx hb hr_v1 (okX12_looksAt (17, .ifCond .ne 7, 3) (List.mem_of_getElem? (i := 11) rfl)) (by decide) (fun c17 => ?_) (fun c17 => ?_)
    · have hM := hM.1 c17
      refine lv_aload_n hx hb (okX12_looksAt (24, .aload_n 0, 1) (List.mem_of_getElem? (i := 14) rfl)) rfl (lv_at hl 1 rfl) ?_
      refine sk_getr (b := 185) S hK hw kdn_158 (kd_in kdn_158) (C := RX12) (T := TX12) (N := 53) rfl hI12 35 ⟨by decide, rfl, by decide, rfl⟩ rfl (k' := 35) rfl rfl (by decide +kernel) hL1 (okX12_looksAt (25, .getfield 92, 3) (List.mem_of_getElem? (i := 15) rfl)) ?_
      refine lv_iload_n hx hb (okX12_looksAt (28, .iload_n 1, 1) (List.mem_of_getElem? (i := 16) rfl)) rfl (lv_at hl 2 rfl) ?_
      refine lv_iconst (v := iI 1) hx hb (okX12_looksAt (29, .iconst 1, 1) (List.mem_of_getElem? (i := 17) rfl)) rfl ?_
      refine sk_isub hx hb (okX12_looksAt (30, .isub, 1) (List.mem_of_getElem? (i := 18) rfl)) ?_
      obtain ⟨hi2, hM⟩ := hM
      have hr3 := hw.1.2.2 185 (v1 - 1)
      refine sk_ild S hK hw kdn_185 (kd_in kdn_185) (by rw [lnn_185]; exact hi2) (okX12_looksAt (31, .iaload, 1) (List.mem_of_getElem? (i := 19) rfl)) ?_
      exact hJ_32 v1 s0 1 (I 185 (v1 - 1)) I hr_v1 hr_s0 (by decide) hr3 hM H locs ls hw (lv_sub hl [1, 2, 0] rfl)
    · have hM := hM.2 c17
      refine lv_iconst (v := iI (-1)) hx hb (okX12_looksAt (20, .iconst (-1), 1) (List.mem_of_getElem? (i := 12) rfl)) rfl ?_
      refine lv_goto (tgt := 32) hx hb (okX12_looksAt (21, .goto 11, 3) (List.mem_of_getElem? (i := 13) rfl)) (by decide) ?_
      exact hJ_32 v1 s0 1 ((-1)) I hr_v1 hr_s0 (by decide) (by decide) hM H locs ls hw (lv_sub hl [1, 2, 0] rfl)
  unfold M_Mo_looksAt at hM
  intro H locs hw
  refine lv_iload_n hx hb (okX12_looksAt (0, .iload_n 1, 1) (List.mem_of_getElem? (i := 0) rfl)) rfl (lv_at hl 1 rfl) ?_
  refine lv_aload_n hx hb (okX12_looksAt (1, .aload_n 0, 1) (List.mem_of_getElem? (i := 1) rfl)) rfl (lv_at hl 0 rfl) ?_
  have hr1 := hw.1.2.2 158 41
  refine sk_geti S hK hw kdn_158 (kd_in kdn_158) (C := RX12) (T := TX12) (N := 53) rfl hI12 41 ⟨by decide, rfl, by decide, rfl⟩ rfl (k' := 41) rfl hL0 (okX12_looksAt (2, .getfield 156, 3) (List.mem_of_getElem? (i := 2) rfl)) ?_
  refine sk_icmp_ne (tgt := 12) hx hb hr_p1 hr1 (okX12_looksAt (5, .if_icmp .ne 7, 3) (List.mem_of_getElem? (i := 3) rfl)) (by decide) (fun c5 => ?_) (fun c5 => ?_)
  · have hM := hM.1 c5
    refine lv_iconst (v := iI 0) hx hb (okX12_looksAt (12, .iconst 0, 1) (List.mem_of_getElem? (i := 6) rfl)) rfl ?_
    exact hJ_13 p1 0 I hr_p1 (by decide) hM H locs ls hw (lv_sub hl [0, 1] rfl)
  · have hM := hM.2 c5
    refine lv_iconst (v := iI 1) hx hb (okX12_looksAt (8, .iconst 1, 1) (List.mem_of_getElem? (i := 4) rfl)) rfl ?_
    refine lv_goto (tgt := 13) hx hb (okX12_looksAt (9, .goto 4, 3) (List.mem_of_getElem? (i := 5) rfl)) (by decide) ?_
    exact hJ_13 p1 1 I hr_p1 (by decide) hM H locs ls hw (lv_sub hl [0, 1] rfl)
def rmX12_pointAhead : Room := { frames := 0, cells := 0, slots := 0, locals := 0 }
set_option maxHeartbeats 4000000 in
set_option maxRecDepth 100000 in
theorem c_Mo_pointAhead (l : Launch) (G : sk_G) {p1 p2 : Int} (hr_p1 : rI p1) (hr_p2 : rI p2) {Q : Int → sk_S → Prop} {I : sk_S} (hM : M_Mo_pointAhead p1 p2 Q I) : Met l yX12_pointAhead wsX12_pointAhead rmX12_pointAhead (va_Pc [.ref (sk_ad G 158), .int (iI p1), .int (iI p2)] (sk_U G 198 sk_t I)) (sk_Qi G 198 sk_t Q) 0 0 (sk_A G) := by
  refine Met.ofW (cc := cX12_pointAhead) (maxL := 3) (ret := (some .int)) (by decide) rfl ?_
  intro p e s m args below meth c s₁ B hml hv
  obtain ⟨rfl, hU, hK⟩ := hv
  have hx := B.exec
  have hb := B.bytes
  have hr0 := B.returns
  have hts := atoms_spec (ws := wsX12_pointAhead) B.pre
  have hown : s.vm.findClass RX12 = some m.cls := findClass_of_methodNamed B.named
  have hlocks := B.notSynchronized
  have S : CallFix p m c cX12_pointAhead 3 s ([.ref (sk_ad G 158), .int (iI p1), .int (iI p2)].toArray) wsX12_pointAhead RX12 := ⟨hx, hb, hml, hown, hts⟩
  have hL0 := hts (.fieldLink RX12 104 "SkyLightsModel" "standsAt" "[I") (by decide +kernel)
  have hI12 : ∀ w ∈ u_ws RX12 TX12 53, w ∈ wsX12_pointAhead := by decide +kernel
  have hw : sk_W G 198 sk_t I s s.heap [] := ⟨hU, va_S.rf⟩
  have hl := lv_entry ([.ref (sk_ad G 158), .int (iI p1), .int (iI p2)]) (n := 3) (Nat.le_of_ble_eq_true rfl)
  rw [lg_entry_eq]
  generalize (lg_sl ([.ref (sk_ad G 158), .int (iI p1), .int (iI p2)]) ++ List.replicate (3 - (lg_sl ([.ref (sk_ad G 158), .int (iI p1), .int (iI p2)])).length) Slot.unset).toArray = ls at hl ⊢
  have hl : lv_has ls 3 [(0, .ref (sk_ad G 158)), (1, .int (iI p1)), (2, .int (iI p2))] := hl
  suffices hgo : ∀ (H : Heap) (locs : List Loc), sk_W G 198 sk_t I s H locs → W p l e (headSpec wsX12_pointAhead rmX12_pointAhead).room s m ([.ref (sk_ad G 158), .int (iI p1), .int (iI p2)].toArray) below meth c H locs 0 0 (MQ below (sk_Qi G 198 sk_t Q) ([.ref (sk_ad G 158), .int (iI p1), .int (iI p2)].toArray) s 0 0 (sk_A G)) (F0 m 0 ls []) from hgo _ _ hw
  unfold M_Mo_pointAhead at hM
  intro H locs hw
  refine lv_iload_n hx hb (okX12_pointAhead (0, .iload_n 2, 1) (List.mem_of_getElem? (i := 0) rfl)) rfl (lv_at hl 2 rfl) ?_
  refine sk_if_ne (tgt := 8) hx hb hr_p2 (okX12_pointAhead (1, .ifCond .ne 7, 3) (List.mem_of_getElem? (i := 1) rfl)) (by decide) (fun c1 => ?_) (fun c1 => ?_)
  · have hM := hM.1 c1
    refine lv_aload_n hx hb (okX12_pointAhead (8, .aload_n 0, 1) (List.mem_of_getElem? (i := 4) rfl)) rfl (lv_at hl 0 rfl) ?_
    refine sk_getr (b := 189) S hK hw kdn_158 (kd_in kdn_158) (C := RX12) (T := TX12) (N := 53) rfl hI12 39 ⟨by decide, rfl, by decide, rfl⟩ rfl (k' := 39) rfl rfl (by decide +kernel) hL0 (okX12_pointAhead (9, .getfield 104, 3) (List.mem_of_getElem? (i := 5) rfl)) ?_
    refine lv_bipush (v := iI 10) hx hb (okX12_pointAhead (12, .bipush 10, 2) (List.mem_of_getElem? (i := 6) rfl)) (by decide +kernel) ?_
    refine lv_iload_n hx hb (okX12_pointAhead (14, .iload_n 2, 1) (List.mem_of_getElem? (i := 7) rfl)) rfl (lv_at hl 2 rfl) ?_
    refine lv_iconst (v := iI 1) hx hb (okX12_pointAhead (15, .iconst 1, 1) (List.mem_of_getElem? (i := 8) rfl)) rfl ?_
    refine sk_isub hx hb (okX12_pointAhead (16, .isub, 1) (List.mem_of_getElem? (i := 9) rfl)) ?_
    refine sk_imul hx hb (okX12_pointAhead (17, .imul, 1) (List.mem_of_getElem? (i := 10) rfl)) ?_
    refine lv_iload_n hx hb (okX12_pointAhead (18, .iload_n 1, 1) (List.mem_of_getElem? (i := 11) rfl)) rfl (lv_at hl 1 rfl) ?_
    refine sk_iadd hx hb (okX12_pointAhead (19, .iadd, 1) (List.mem_of_getElem? (i := 12) rfl)) ?_
    obtain ⟨hi1, hM⟩ := hM
    have hr2 := hw.1.2.2 189 ((10 * (p2 - 1)) + p1)
    refine sk_ild S hK hw kdn_189 (kd_in kdn_189) (by rw [lnn_189]; exact hi1) (okX12_pointAhead (20, .iaload, 1) (List.mem_of_getElem? (i := 13) rfl)) ?_
    exact sk_iret hx hb hr0 hlocks hK hw hr2 hM (okX12_pointAhead (21, .ireturn, 1) (List.mem_of_getElem? (i := 14) rfl))
  · have hM := hM.2 c1
    refine lv_iload_n hx hb (okX12_pointAhead (4, .iload_n 1, 1) (List.mem_of_getElem? (i := 2) rfl)) rfl (lv_at hl 1 rfl) ?_
    refine lv_goto (tgt := 21) hx hb (okX12_pointAhead (5, .goto 16, 3) (List.mem_of_getElem? (i := 3) rfl)) (by decide) ?_
    exact sk_iret hx hb hr0 hlocks hK hw hr_p1 hM (okX12_pointAhead (21, .ireturn, 1) (List.mem_of_getElem? (i := 14) rfl))
def rmX12_lands : Room := { frames := 3, cells := 0, slots := 0, locals := 167 }
set_option maxHeartbeats 4000000 in
set_option maxRecDepth 100000 in
theorem c_Mo_lands (l : Launch) (G : sk_G) {p1 : Int} (hr_p1 : rI p1) {Q : Int → sk_S → Prop} {I : sk_S} (hM : M_Mo_lands p1 Q I) : Met l yX12_lands wsX12_lands rmX12_lands (va_Pc [.ref (sk_ad G 158), .int (iI p1)] (sk_U G 198 sk_t I)) (sk_Qi G 198 sk_t Q) 0 0 (sk_A G) := by
  refine Met.ofW (cc := cX12_lands) (maxL := 2) (ret := (some .int)) (by decide) rfl ?_
  intro p e s m args below meth c s₁ B hml hv
  obtain ⟨rfl, hU, hK⟩ := hv
  have hx := B.exec
  have hb := B.bytes
  have hr0 := B.returns
  have hts := atoms_spec (ws := wsX12_lands) B.pre
  have hown : s.vm.findClass RX12 = some m.cls := findClass_of_methodNamed B.named
  have hlocks := B.notSynchronized
  have S : CallFix p m c cX12_lands 2 s ([.ref (sk_ad G 158), .int (iI p1)].toArray) wsX12_lands RX12 := ⟨hx, hb, hml, hown, hts⟩
  have hL0 := hts (.fieldLink RX12 156 "SkyLightsModel" "scenes" "I") (by decide +kernel)
  have hL1 := hts (.fieldLink RX12 77 "SkyLightsModel" "goesTo" "[I") (by decide +kernel)
  have hI12 : ∀ w ∈ u_ws RX12 TX12 53, w ∈ wsX12_lands := by decide +kernel
  have hw : sk_W G 198 sk_t I s s.heap [] := ⟨hU, va_S.rf⟩
  have hl := lv_entry ([.ref (sk_ad G 158), .int (iI p1)]) (n := 2) (Nat.le_of_ble_eq_true rfl)
  rw [lg_entry_eq]
  generalize (lg_sl ([.ref (sk_ad G 158), .int (iI p1)]) ++ List.replicate (2 - (lg_sl ([.ref (sk_ad G 158), .int (iI p1)])).length) Slot.unset).toArray = ls at hl ⊢
  have hl : lv_has ls 2 [(0, .ref (sk_ad G 158)), (1, .int (iI p1))] := hl
  suffices hgo : ∀ (H : Heap) (locs : List Loc), sk_W G 198 sk_t I s H locs → W p l e (headSpec wsX12_lands rmX12_lands).room s m ([.ref (sk_ad G 158), .int (iI p1)].toArray) below meth c H locs 0 0 (MQ below (sk_Qi G 198 sk_t Q) ([.ref (sk_ad G 158), .int (iI p1)].toArray) s 0 0 (sk_A G)) (F0 m 0 ls []) from hgo _ _ hw
  unfold M_Mo_lands at hM
  intro H locs hw
  refine lv_aload_n hx hb (okX12_lands (0, .aload_n 0, 1) (List.mem_of_getElem? (i := 0) rfl)) rfl (lv_at hl 0 rfl) ?_
  refine lv_iload_n hx hb (okX12_lands (1, .iload_n 1, 1) (List.mem_of_getElem? (i := 1) rfl)) rfl (lv_at hl 1 rfl) ?_
  refine sk_ci (sk_runV (a := 158) (C := RX12) (As := [.int (iI p1)]) (rest := []) S (c_Mo_isFlyer l G hr_p1 hM) sk_blind gX12_lands_X12_isFlyer rfl hdX12_isFlyer ⟨⟨rfl, rfl⟩, Nat.le_of_ble_eq_true rfl, Nat.le_of_ble_eq_true rfl⟩ (sk_recv hK hw kdn_158 (kd_in kdn_158) (by decide) rfl) (sk_pre hK hw) rfl hl.1 rfl (Nat.le_of_ble_eq_true rfl) (okX12_lands (2, .invokevirtual 282, 3) (List.mem_of_getElem? (i := 2) rfl)) ⟨Nat.zero_le _, Nat.zero_le _⟩) hw (fun r_2 I_2 H locs hr_r_2 hM hw => ?_)
  obtain ⟨hb_r_2, hM⟩ := hM
  refine sk_if_ne (tgt := 10) hx hb hr_r_2 (okX12_lands (5, .ifCond .ne 5, 3) (List.mem_of_getElem? (i := 3) rfl)) (by decide) (fun c5 => ?_) (fun c5 => ?_)
  · have hM := hM.1 c5
    refine lv_aload_n hx hb (okX12_lands (10, .aload_n 0, 1) (List.mem_of_getElem? (i := 6) rfl)) rfl (lv_at hl 0 rfl) ?_
    have hr1 := hw.1.2.2 158 41
    refine sk_geti S hK hw kdn_158 (kd_in kdn_158) (C := RX12) (T := TX12) (N := 53) rfl hI12 41 ⟨by decide, rfl, by decide, rfl⟩ rfl (k' := 41) rfl hL0 (okX12_lands (11, .getfield 156, 3) (List.mem_of_getElem? (i := 7) rfl)) ?_
    refine sk_if_ne (tgt := 20) hx hb hr1 (okX12_lands (14, .ifCond .ne 6, 3) (List.mem_of_getElem? (i := 8) rfl)) (by decide) (fun c14 => ?_) (fun c14 => ?_)
    · have hM := hM.1 c14
      refine lv_aload_n hx hb (okX12_lands (20, .aload_n 0, 1) (List.mem_of_getElem? (i := 11) rfl)) rfl (lv_at hl 0 rfl) ?_
      refine lv_aload_n hx hb (okX12_lands (21, .aload_n 0, 1) (List.mem_of_getElem? (i := 12) rfl)) rfl (lv_at hl 0 rfl) ?_
      have hr2 := hw.1.2.2 158 41
      refine sk_geti S hK hw kdn_158 (kd_in kdn_158) (C := RX12) (T := TX12) (N := 53) rfl hI12 41 ⟨by decide, rfl, by decide, rfl⟩ rfl (k' := 41) rfl hL0 (okX12_lands (22, .getfield 156, 3) (List.mem_of_getElem? (i := 13) rfl)) ?_
      refine sk_cv (sk_runV (a := 158) (C := RX12) (As := [.int (iI (I_2 158 41))]) (rest := []) S (c_Mo_looksAt l G hr2 hM) sk_blind gX12_lands_X12_looksAt rfl hdX12_looksAt ⟨⟨rfl, rfl⟩, Nat.le_of_ble_eq_true rfl, Nat.le_of_ble_eq_true rfl⟩ (sk_recv hK hw kdn_158 (kd_in kdn_158) (by decide) rfl) (sk_pre hK hw) rfl hl.1 rfl (Nat.le_of_ble_eq_true rfl) (okX12_lands (25, .invokevirtual 275, 3) (List.mem_of_getElem? (i := 14) rfl)) ⟨Nat.zero_le _, Nat.zero_le _⟩) hw (fun I_25 H locs hM hw => ?_)
      refine lv_aload_n hx hb (okX12_lands (28, .aload_n 0, 1) (List.mem_of_getElem? (i := 15) rfl)) rfl (lv_at hl 0 rfl) ?_
      refine sk_getr (b := 180) S hK hw kdn_158 (kd_in kdn_158) (C := RX12) (T := TX12) (N := 53) rfl hI12 30 ⟨by decide, rfl, by decide, rfl⟩ rfl (k' := 30) rfl rfl (by decide +kernel) hL1 (okX12_lands (29, .getfield 77, 3) (List.mem_of_getElem? (i := 16) rfl)) ?_
      refine lv_aload_n hx hb (okX12_lands (32, .aload_n 0, 1) (List.mem_of_getElem? (i := 17) rfl)) rfl (lv_at hl 0 rfl) ?_
      refine lv_iload_n hx hb (okX12_lands (33, .iload_n 1, 1) (List.mem_of_getElem? (i := 18) rfl)) rfl (lv_at hl 1 rfl) ?_
      refine lv_aload_n hx hb (okX12_lands (34, .aload_n 0, 1) (List.mem_of_getElem? (i := 19) rfl)) rfl (lv_at hl 0 rfl) ?_
      have hr3 := hw.1.2.2 158 41
      refine sk_geti S hK hw kdn_158 (kd_in kdn_158) (C := RX12) (T := TX12) (N := 53) rfl hI12 41 ⟨by decide, rfl, by decide, rfl⟩ rfl (k' := 41) rfl hL0 (okX12_lands (35, .getfield 156, 3) (List.mem_of_getElem? (i := 20) rfl)) ?_
      refine sk_ci (sk_runV (a := 158) (C := RX12) (As := [.int (iI p1), .int (iI (I_25 158 41))]) (rest := [.ref (sk_ad G 180)]) S (c_Mo_pointAhead l G hr_p1 hr3 hM) sk_blind gX12_lands_X12_pointAhead rfl hdX12_pointAhead ⟨⟨rfl, rfl⟩, Nat.le_of_ble_eq_true rfl, Nat.le_of_ble_eq_true rfl⟩ (sk_recv hK hw kdn_158 (kd_in kdn_158) (by decide) rfl) (sk_pre hK hw) rfl hl.1 rfl (Nat.le_of_ble_eq_true rfl) (okX12_lands (38, .invokevirtual 279, 3) (List.mem_of_getElem? (i := 21) rfl)) ⟨Nat.zero_le _, Nat.zero_le _⟩) hw (fun r_38 I_38 H locs hr_r_38 hM hw => ?_)
      obtain ⟨hi4, hM⟩ := hM
      have hr5 := hw.1.2.2 180 r_38
      refine sk_ild S hK hw kdn_180 (kd_in kdn_180) (by rw [lnn_180]; exact hi4) (okX12_lands (41, .iaload, 1) (List.mem_of_getElem? (i := 22) rfl)) ?_
      exact sk_iret hx hb hr0 hlocks hK hw hr5 hM (okX12_lands (42, .ireturn, 1) (List.mem_of_getElem? (i := 23) rfl))
    · have hM := hM.2 c14
      refine lv_bipush (v := iI (-3)) hx hb (okX12_lands (17, .bipush (-3), 2) (List.mem_of_getElem? (i := 9) rfl)) (by decide +kernel) ?_
      exact sk_iret hx hb hr0 hlocks hK hw (by decide) hM (okX12_lands (19, .ireturn, 1) (List.mem_of_getElem? (i := 10) rfl))
  · have hM := hM.2 c5
    refine lv_iconst (v := iI (-1)) hx hb (okX12_lands (8, .iconst (-1), 1) (List.mem_of_getElem? (i := 4) rfl)) rfl ?_
    exact sk_iret hx hb hr0 hlocks hK hw (by decide) hM (okX12_lands (9, .ireturn, 1) (List.mem_of_getElem? (i := 5) rfl))
def rmX12_leftTo : Room := { frames := 1, cells := 0, slots := 0, locals := 54 }
set_option maxHeartbeats 4000000 in
set_option maxRecDepth 100000 in
theorem c_Mo_leftTo (l : Launch) (G : sk_G) {p1 : Int} (hr_p1 : rI p1) {Q : Int → sk_S → Prop} {I : sk_S} (hM : M_Mo_leftTo p1 Q I) : Met l yX12_leftTo wsX12_leftTo rmX12_leftTo (va_Pc [.ref (sk_ad G 158), .int (iI p1)] (sk_U G 198 sk_t I)) (sk_Qi G 198 sk_t Q) 0 0 (sk_A G) := by
  refine Met.ofW (cc := cX12_leftTo) (maxL := 4) (ret := (some .int)) (by decide) rfl ?_
  intro p e s m args below meth c s₁ B hml hv
  obtain ⟨rfl, hU, hK⟩ := hv
  have hx := B.exec
  have hb := B.bytes
  have hr0 := B.returns
  have hts := atoms_spec (ws := wsX12_leftTo) B.pre
  have hown : s.vm.findClass RX12 = some m.cls := findClass_of_methodNamed B.named
  have hlocks := B.notSynchronized
  have S : CallFix p m c cX12_leftTo 4 s ([.ref (sk_ad G 158), .int (iI p1)].toArray) wsX12_leftTo RX12 := ⟨hx, hb, hml, hown, hts⟩
  have hL0 := hts (.fieldLink RX12 16 "SkyLightsModel" "charge" "[I") (by decide +kernel)
  have hL1 := hts (.fieldLink RX12 156 "SkyLightsModel" "scenes" "I") (by decide +kernel)
  have hL2 := hts (.fieldLink RX12 98 "SkyLightsModel" "sceneHold" "[I") (by decide +kernel)
  have hL3 := hts (.fieldLink RX12 95 "SkyLightsModel" "sceneTicks" "[I") (by decide +kernel)
  have hI12 : ∀ w ∈ u_ws RX12 TX12 53, w ∈ wsX12_leftTo := by decide +kernel
  have hw : sk_W G 198 sk_t I s s.heap [] := ⟨hU, va_S.rf⟩
  have hl := lv_entry ([.ref (sk_ad G 158), .int (iI p1)]) (n := 4) (Nat.le_of_ble_eq_true rfl)
  rw [lg_entry_eq]
  generalize (lg_sl ([.ref (sk_ad G 158), .int (iI p1)]) ++ List.replicate (4 - (lg_sl ([.ref (sk_ad G 158), .int (iI p1)])).length) Slot.unset).toArray = ls at hl ⊢
  have hl : lv_has ls 4 [(0, .ref (sk_ad G 158)), (1, .int (iI p1))] := hl
  suffices hgo : ∀ (H : Heap) (locs : List Loc), sk_W G 198 sk_t I s H locs → W p l e (headSpec wsX12_leftTo rmX12_leftTo).room s m ([.ref (sk_ad G 158), .int (iI p1)].toArray) below meth c H locs 0 0 (MQ below (sk_Qi G 198 sk_t Q) ([.ref (sk_ad G 158), .int (iI p1)].toArray) s 0 0 (sk_A G)) (F0 m 0 ls []) from hgo _ _ hw
  have hJ_64 : ∀ (v2 : Int) (I : sk_S), rI v2 → J_Mo_leftTo_64 v2 Q I → ∀ (H : Heap) (locs : List Loc) (ls : Array Slot), sk_W G 198 sk_t I s H locs → lv_has ls 4 [(0, .ref (sk_ad G 158)), (2, .int (iI v2))] → W p l e (headSpec wsX12_leftTo rmX12_leftTo).room s m ([.ref (sk_ad G 158), .int (iI p1)].toArray) below meth c H locs 0 0 (MQ below (sk_Qi G 198 sk_t Q) ([.ref (sk_ad G 158), .int (iI p1)].toArray) s 0 0 (sk_A G)) (F0 m 64 ls []) := by
    intro v2 I hr_v2 hM H locs ls hw hl
    unfold J_Mo_leftTo_64 at hM
    refine lv_aload_n hx hb (okX12_leftTo (64, .aload_n 0, 1) (List.mem_of_getElem? (i := 42) rfl)) rfl (lv_at hl 0 rfl) ?_
    have hr13 := hw.1.2.2 158 41
    refine sk_geti S hK hw kdn_158 (kd_in kdn_158) (C := RX12) (T := TX12) (N := 53) rfl hI12 41 ⟨by decide, rfl, by decide, rfl⟩ rfl (k' := 41) rfl hL1 (okX12_leftTo (65, .getfield 156, 3) (List.mem_of_getElem? (i := 43) rfl)) ?_
    refine sk_if_ne (tgt := 75) hx hb hr13 (okX12_leftTo (68, .ifCond .ne 7, 3) (List.mem_of_getElem? (i := 44) rfl)) (by decide) (fun c68 => ?_) (fun c68 => ?_)
    · have hM := hM.1 c68
      refine lv_iload_n hx hb (okX12_leftTo (75, .iload_n 2, 1) (List.mem_of_getElem? (i := 47) rfl)) rfl (lv_at hl 1 rfl) ?_
      refine lv_iconst (v := iI 3) hx hb (okX12_leftTo (76, .iconst 3, 1) (List.mem_of_getElem? (i := 48) rfl)) rfl ?_
      refine lv_aload_n hx hb (okX12_leftTo (77, .aload_n 0, 1) (List.mem_of_getElem? (i := 49) rfl)) rfl (lv_at hl 0 rfl) ?_
      refine sk_getr (b := 186) S hK hw kdn_158 (kd_in kdn_158) (C := RX12) (T := TX12) (N := 53) rfl hI12 36 ⟨by decide, rfl, by decide, rfl⟩ rfl (k' := 36) rfl rfl (by decide +kernel) hL3 (okX12_leftTo (78, .getfield 95, 3) (List.mem_of_getElem? (i := 50) rfl)) ?_
      refine lv_aload_n hx hb (okX12_leftTo (81, .aload_n 0, 1) (List.mem_of_getElem? (i := 51) rfl)) rfl (lv_at hl 0 rfl) ?_
      have hr14 := hw.1.2.2 158 41
      refine sk_geti S hK hw kdn_158 (kd_in kdn_158) (C := RX12) (T := TX12) (N := 53) rfl hI12 41 ⟨by decide, rfl, by decide, rfl⟩ rfl (k' := 41) rfl hL1 (okX12_leftTo (82, .getfield 156, 3) (List.mem_of_getElem? (i := 52) rfl)) ?_
      refine lv_iconst (v := iI 1) hx hb (okX12_leftTo (85, .iconst 1, 1) (List.mem_of_getElem? (i := 53) rfl)) rfl ?_
      refine sk_isub hx hb (okX12_leftTo (86, .isub, 1) (List.mem_of_getElem? (i := 54) rfl)) ?_
      obtain ⟨hi15, hM⟩ := hM
      have hr16 := hw.1.2.2 186 ((I 158 41) - 1)
      refine sk_ild S hK hw kdn_186 (kd_in kdn_186) (by rw [lnn_186]; exact hi15) (okX12_leftTo (87, .iaload, 1) (List.mem_of_getElem? (i := 55) rfl)) ?_
      refine sk_imul hx hb (okX12_leftTo (88, .imul, 1) (List.mem_of_getElem? (i := 56) rfl)) ?_
      refine sk_isub hx hb (okX12_leftTo (89, .isub, 1) (List.mem_of_getElem? (i := 57) rfl)) ?_
      obtain ⟨hr17, hM⟩ := hM
      exact sk_iret hx hb hr0 hlocks hK hw hr17 hM (okX12_leftTo (90, .ireturn, 1) (List.mem_of_getElem? (i := 58) rfl))
    · have hM := hM.2 c68
      refine lv_iload_n hx hb (okX12_leftTo (71, .iload_n 2, 1) (List.mem_of_getElem? (i := 45) rfl)) rfl (lv_at hl 1 rfl) ?_
      refine lv_goto (tgt := 90) hx hb (okX12_leftTo (72, .goto 18, 3) (List.mem_of_getElem? (i := 46) rfl)) (by decide) ?_
      exact sk_iret hx hb hr0 hlocks hK hw hr_v2 hM (okX12_leftTo (90, .ireturn, 1) (List.mem_of_getElem? (i := 58) rfl))
  have hJ_9 : ∀ (v1 v2 v3 : Int) (I : sk_S), rI v1 → rI v2 → rI v3 → L_Mo_leftTo_9 v1 Q v2 v3 I → ∀ (H : Heap) (locs : List Loc) (ls : Array Slot), sk_W G 198 sk_t I s H locs → lv_has ls 4 [(0, .ref (sk_ad G 158)), (1, .int (iI v1)), (2, .int (iI v2)), (3, .int (iI v3))] → W p l e (headSpec wsX12_leftTo rmX12_leftTo).room s m ([.ref (sk_ad G 158), .int (iI p1)].toArray) below meth c H locs 0 0 (MQ below (sk_Qi G 198 sk_t Q) ([.ref (sk_ad G 158), .int (iI p1)].toArray) s 0 0 (sk_A G)) (F0 m 9 ls []) := by
    intro v1 v2 v3 I hr_v1 hr_v2 hr_v3 hM H locs ls hw hl
    unfold L_Mo_leftTo_9 at hM
    obtain ⟨X_9, hX_9⟩ : ∃ X : Int → Int → sk_S → Prop, ∀ (v2 v3 : Int) (I : sk_S), X v2 v3 I ↔ (rI v2 → rI v3 → ∀ (H : Heap) (locs : List Loc) (ls : Array Slot), sk_W G 198 sk_t I s H locs → lv_has ls 4 [(0, .ref (sk_ad G 158)), (1, .int (iI v1)), (2, .int (iI v2)), (3, .int (iI v3))] → W p l e (headSpec wsX12_leftTo rmX12_leftTo).room s m ([.ref (sk_ad G 158), .int (iI p1)].toArray) below meth c H locs 0 0 (MQ below (sk_Qi G 198 sk_t Q) ([.ref (sk_ad G 158), .int (iI p1)].toArray) s 0 0 (sk_A G)) (F0 m 9 ls [])) := ⟨_, fun _ _ _ => Iff.rfl⟩
    have hJ_54 : ∀ (v3 s0 s1 s2 s3 : Int) (I : sk_S), rI v3 → rI s0 → rI s1 → rI s2 → rI s3 → J_Mo_leftTo_54 v1 v3 s0 s1 s2 s3 Q X_9 I → ∀ (H : Heap) (locs : List Loc) (ls : Array Slot), sk_W G 198 sk_t I s H locs → lv_has ls 4 [(0, .ref (sk_ad G 158)), (1, .int (iI v1)), (3, .int (iI v3))] → W p l e (headSpec wsX12_leftTo rmX12_leftTo).room s m ([.ref (sk_ad G 158), .int (iI p1)].toArray) below meth c H locs 0 0 (MQ below (sk_Qi G 198 sk_t Q) ([.ref (sk_ad G 158), .int (iI p1)].toArray) s 0 0 (sk_A G)) (F0 m 54 ls [.int (iI s3), .int (iI s2), .int (iI s1), .int (iI s0)]) := by
      intro v3 s0 s1 s2 s3 I hr_v3 hr_s0 hr_s1 hr_s2 hr_s3 hM H locs ls hw hl
      unfold J_Mo_leftTo_54 at hM
      refine sk_imul hx hb (okX12_leftTo (54, .imul, 1) (List.mem_of_getElem? (i := 36) rfl)) ?_
      refine sk_iadd hx hb (okX12_leftTo (55, .iadd, 1) (List.mem_of_getElem? (i := 37) rfl)) ?_
      refine sk_isub hx hb (okX12_leftTo (56, .isub, 1) (List.mem_of_getElem? (i := 38) rfl)) ?_
      obtain ⟨hr11, hM⟩ := hM
      refine sk_nm (fun v2_57 ev2_57 => ?_)
      have hM := hM v2_57 ev2_57
      have hr_v2_57 : rI v2_57 := by rw [ev2_57]; exact hr11
      refine lv_istore_n (lv' := [(2, .int (iI v2_57)), (0, .ref (sk_ad G 158)), (1, .int (iI v1)), (3, .int (iI v3))]) hx hb (okX12_leftTo (57, .istore_n 2, 1) (List.mem_of_getElem? (i := 39) rfl)) rfl hl (by decide) rfl (fun ls hl => ?_)
      obtain ⟨hr12, hM⟩ := hM
      obtain ⟨v3_58, ev3_58⟩ : ∃ y : Int, y = v3 + 1 := ⟨_, rfl⟩
      have hM := hM v3_58 ev3_58
      have hr_v3_58 : rI v3_58 := by rw [ev3_58]; exact hr12
      refine lv_iinc (v := iI v3_58) (lv' := [(3, .int (iI v3_58)), (2, .int (iI v2_57)), (0, .ref (sk_ad G 158)), (1, .int (iI v1))]) hx hb (okX12_leftTo (58, .iinc 3 1, 3) (List.mem_of_getElem? (i := 40) rfl)) hl (k := 3) rfl (by rw [ev3_58]; exact iI_add _ _) (by decide) rfl (fun ls hl => ?_)
      refine lv_goto (tgt := 9) hx hb (okX12_leftTo (61, .goto (-52), 3) (List.mem_of_getElem? (i := 41) rfl)) (by decide) ?_
      exact (hX_9 v2_57 v3_58 I).1 hM hr_v2_57 hr_v3_58 H locs ls hw (lv_sub hl [2, 3, 1, 0] rfl)
    refine (hX_9 v2 v3 I).1 (hM X_9 (fun v2 v3 I hM => (hX_9 v2 v3 I).2 (fun hr_v2 hr_v3 H locs ls hw hl => ?_))) hr_v2 hr_v3 H locs ls hw hl
    refine lv_iload_n hx hb (okX12_leftTo (9, .iload_n 3, 1) (List.mem_of_getElem? (i := 7) rfl)) rfl (lv_at hl 3 rfl) ?_
    refine lv_aload_n hx hb (okX12_leftTo (10, .aload_n 0, 1) (List.mem_of_getElem? (i := 8) rfl)) rfl (lv_at hl 0 rfl) ?_
    have hr3 := hw.1.2.2 158 41
    refine sk_geti S hK hw kdn_158 (kd_in kdn_158) (C := RX12) (T := TX12) (N := 53) rfl hI12 41 ⟨by decide, rfl, by decide, rfl⟩ rfl (k' := 41) rfl hL1 (okX12_leftTo (11, .getfield 156, 3) (List.mem_of_getElem? (i := 9) rfl)) ?_
    refine sk_icmp_ge (tgt := 64) hx hb hr_v3 hr3 (okX12_leftTo (14, .if_icmp .ge 50, 3) (List.mem_of_getElem? (i := 10) rfl)) (by decide) (fun c14 => ?_) (fun c14 => ?_)
    · have hM := hM.1 c14
      exact hJ_64 v2 I hr_v2 hM H locs ls hw (lv_sub hl [0, 2] rfl)
    · have hM := hM.2 c14
      refine lv_iload_n hx hb (okX12_leftTo (17, .iload_n 2, 1) (List.mem_of_getElem? (i := 11) rfl)) rfl (lv_at hl 2 rfl) ?_
      refine lv_iconst (v := iI 2) hx hb (okX12_leftTo (18, .iconst 2, 1) (List.mem_of_getElem? (i := 12) rfl)) rfl ?_
      refine lv_aload_n hx hb (okX12_leftTo (19, .aload_n 0, 1) (List.mem_of_getElem? (i := 13) rfl)) rfl (lv_at hl 0 rfl) ?_
      refine sk_getr (b := 187) S hK hw kdn_158 (kd_in kdn_158) (C := RX12) (T := TX12) (N := 53) rfl hI12 37 ⟨by decide, rfl, by decide, rfl⟩ rfl (k' := 37) rfl rfl (by decide +kernel) hL2 (okX12_leftTo (20, .getfield 98, 3) (List.mem_of_getElem? (i := 14) rfl)) ?_
      refine lv_iload_n hx hb (okX12_leftTo (23, .iload_n 3, 1) (List.mem_of_getElem? (i := 15) rfl)) rfl (lv_at hl 3 rfl) ?_
      obtain ⟨hi4, hM⟩ := hM
      have hr5 := hw.1.2.2 187 v3
      refine sk_ild S hK hw kdn_187 (kd_in kdn_187) (by rw [lnn_187]; exact hi4) (okX12_leftTo (24, .iaload, 1) (List.mem_of_getElem? (i := 16) rfl)) ?_
      refine sk_imul hx hb (okX12_leftTo (25, .imul, 1) (List.mem_of_getElem? (i := 17) rfl)) ?_
      refine lv_aload_n hx hb (okX12_leftTo (26, .aload_n 0, 1) (List.mem_of_getElem? (i := 18) rfl)) rfl (lv_at hl 0 rfl) ?_
      refine sk_getr (b := 186) S hK hw kdn_158 (kd_in kdn_158) (C := RX12) (T := TX12) (N := 53) rfl hI12 36 ⟨by decide, rfl, by decide, rfl⟩ rfl (k' := 36) rfl rfl (by decide +kernel) hL3 (okX12_leftTo (27, .getfield 95, 3) (List.mem_of_getElem? (i := 19) rfl)) ?_
      refine lv_iload_n hx hb (okX12_leftTo (30, .iload_n 3, 1) (List.mem_of_getElem? (i := 20) rfl)) rfl (lv_at hl 3 rfl) ?_
      obtain ⟨hi6, hM⟩ := hM
      have hr7 := hw.1.2.2 186 v3
      refine sk_ild S hK hw kdn_186 (kd_in kdn_186) (by rw [lnn_186]; exact hi6) (okX12_leftTo (31, .iaload, 1) (List.mem_of_getElem? (i := 21) rfl)) ?_
      refine lv_aload_n hx hb (okX12_leftTo (32, .aload_n 0, 1) (List.mem_of_getElem? (i := 22) rfl)) rfl (lv_at hl 0 rfl) ?_
      refine lv_iload_n hx hb (okX12_leftTo (33, .iload_n 1, 1) (List.mem_of_getElem? (i := 23) rfl)) rfl (lv_at hl 1 rfl) ?_
      refine lv_iload_n hx hb (okX12_leftTo (34, .iload_n 3, 1) (List.mem_of_getElem? (i := 24) rfl)) rfl (lv_at hl 3 rfl) ?_
      refine sk_ci (sk_runV (a := 158) (C := RX12) (As := [.int (iI v1), .int (iI v3)]) (rest := [.int (iI (I 186 v3)), .int (iI (2 * (I 187 v3))), .int (iI v2)]) S (c_Mo_heightIn l G hr_v1 hr_v3 hM) sk_blind gX12_leftTo_X12_heightIn rfl hdX12_heightIn ⟨⟨rfl, rfl⟩, Nat.le_of_ble_eq_true rfl, Nat.le_of_ble_eq_true rfl⟩ (sk_recv hK hw kdn_158 (kd_in kdn_158) (by decide) rfl) (sk_pre hK hw) rfl hl.1 rfl (Nat.le_of_ble_eq_true rfl) (okX12_leftTo (35, .invokevirtual 288, 3) (List.mem_of_getElem? (i := 25) rfl)) ⟨Nat.zero_le _, Nat.zero_le _⟩) hw (fun r_35 I_35 H locs hr_r_35 hM hw => ?_)
      refine lv_aload_n hx hb (okX12_leftTo (38, .aload_n 0, 1) (List.mem_of_getElem? (i := 26) rfl)) rfl (lv_at hl 0 rfl) ?_
      refine lv_iload_n hx hb (okX12_leftTo (39, .iload_n 1, 1) (List.mem_of_getElem? (i := 27) rfl)) rfl (lv_at hl 1 rfl) ?_
      refine lv_iload_n hx hb (okX12_leftTo (40, .iload_n 3, 1) (List.mem_of_getElem? (i := 28) rfl)) rfl (lv_at hl 3 rfl) ?_
      refine lv_iconst (v := iI 1) hx hb (okX12_leftTo (41, .iconst 1, 1) (List.mem_of_getElem? (i := 29) rfl)) rfl ?_
      refine sk_isub hx hb (okX12_leftTo (42, .isub, 1) (List.mem_of_getElem? (i := 30) rfl)) ?_
      obtain ⟨hr8, hM⟩ := hM
      refine sk_ci (sk_runV (a := 158) (C := RX12) (As := [.int (iI v1), .int (iI (v3 - 1))]) (rest := [.int (iI r_35), .int (iI (I 186 v3)), .int (iI (2 * (I 187 v3))), .int (iI v2)]) S (c_Mo_heightIn l G hr_v1 hr8 hM) sk_blind gX12_leftTo_X12_heightIn rfl hdX12_heightIn ⟨⟨rfl, rfl⟩, Nat.le_of_ble_eq_true rfl, Nat.le_of_ble_eq_true rfl⟩ (sk_recv hK hw kdn_158 (kd_in kdn_158) (by decide) rfl) (sk_pre hK hw) rfl hl.1 rfl (Nat.le_of_ble_eq_true rfl) (okX12_leftTo (43, .invokevirtual 288, 3) (List.mem_of_getElem? (i := 31) rfl)) ⟨Nat.zero_le _, Nat.zero_le _⟩) hw (fun r_43 I_43 H locs hr_r_43 hM hw => ?_)
      refine sk_icmp_le (tgt := 53) hx hb hr_r_35 hr_r_43 (okX12_leftTo (46, .if_icmp .le 7, 3) (List.mem_of_getElem? (i := 32) rfl)) (by decide) (fun c46 => ?_) (fun c46 => ?_)
      · have hM := hM.1 c46
        refine lv_iconst (v := iI 3) hx hb (okX12_leftTo (53, .iconst 3, 1) (List.mem_of_getElem? (i := 35) rfl)) rfl ?_
        obtain ⟨hr9, hM⟩ := hM
        exact hJ_54 v3 v2 (2 * (I 187 v3)) (I 186 v3) 3 I_43 hr_v3 hr_v2 hr9 hr7 (by decide) hM H locs ls hw (lv_sub hl [0, 1, 3] rfl)
      · have hM := hM.2 c46
        refine lv_iconst (v := iI 4) hx hb (okX12_leftTo (49, .iconst 4, 1) (List.mem_of_getElem? (i := 33) rfl)) rfl ?_
        refine lv_goto (tgt := 54) hx hb (okX12_leftTo (50, .goto 4, 3) (List.mem_of_getElem? (i := 34) rfl)) (by decide) ?_
        obtain ⟨hr10, hM⟩ := hM
        exact hJ_54 v3 v2 (2 * (I 187 v3)) (I 186 v3) 4 I_43 hr_v3 hr_v2 hr10 hr7 (by decide) hM H locs ls hw (lv_sub hl [0, 1, 3] rfl)
  unfold M_Mo_leftTo at hM
  intro H locs hw
  refine lv_aload_n hx hb (okX12_leftTo (0, .aload_n 0, 1) (List.mem_of_getElem? (i := 0) rfl)) rfl (lv_at hl 0 rfl) ?_
  refine sk_getr (b := 161) S hK hw kdn_158 (kd_in kdn_158) (C := RX12) (T := TX12) (N := 53) rfl hI12 2 ⟨by decide, rfl, by decide, rfl⟩ rfl (k' := 2) rfl rfl (by decide +kernel) hL0 (okX12_leftTo (1, .getfield 16, 3) (List.mem_of_getElem? (i := 1) rfl)) ?_
  refine lv_iload_n hx hb (okX12_leftTo (4, .iload_n 1, 1) (List.mem_of_getElem? (i := 2) rfl)) rfl (lv_at hl 1 rfl) ?_
  obtain ⟨hi1, hM⟩ := hM
  have hr2 := hw.1.2.2 161 p1
  refine sk_ild S hK hw kdn_161 (kd_in kdn_161) (by rw [lnn_161]; exact hi1) (okX12_leftTo (5, .iaload, 1) (List.mem_of_getElem? (i := 3) rfl)) ?_
  refine sk_nm (fun v2_6 ev2_6 => ?_)
  have hM := hM v2_6 ev2_6
  have hr_v2_6 : rI v2_6 := by rw [ev2_6]; exact hr2
  refine lv_istore_n (lv' := [(2, .int (iI v2_6)), (0, .ref (sk_ad G 158)), (1, .int (iI p1))]) hx hb (okX12_leftTo (6, .istore_n 2, 1) (List.mem_of_getElem? (i := 4) rfl)) rfl hl (by decide) rfl (fun ls hl => ?_)
  refine lv_iconst (v := iI 0) hx hb (okX12_leftTo (7, .iconst 0, 1) (List.mem_of_getElem? (i := 5) rfl)) rfl ?_
  refine lv_istore_n (lv' := [(3, .int (iI 0)), (2, .int (iI v2_6)), (0, .ref (sk_ad G 158)), (1, .int (iI p1))]) hx hb (okX12_leftTo (8, .istore_n 3, 1) (List.mem_of_getElem? (i := 6) rfl)) rfl hl (by decide) rfl (fun ls hl => ?_)
  exact hJ_9 p1 v2_6 0 I hr_p1 hr_v2_6 (by decide) hM H locs ls hw (lv_sub hl [2, 3, 1, 0] rfl)
def rmX12_last : Room := { frames := 2, cells := 0, slots := 0, locals := 109 }
set_option maxHeartbeats 4000000 in
set_option maxRecDepth 100000 in
theorem c_Mo_last (l : Launch) (G : sk_G) {Q : Int → sk_S → Prop} {I : sk_S} (hM : M_Mo_last Q I) : Met l yX12_last wsX12_last rmX12_last (va_Pc [.ref (sk_ad G 158)] (sk_U G 198 sk_t I)) (sk_Qi G 198 sk_t Q) 0 0 (sk_A G) := by
  refine Met.ofW (cc := cX12_last) (maxL := 3) (ret := (some .int)) (by decide) rfl ?_
  intro p e s m args below meth c s₁ B hml hv
  obtain ⟨rfl, hU, hK⟩ := hv
  have hx := B.exec
  have hb := B.bytes
  have hr0 := B.returns
  have hts := atoms_spec (ws := wsX12_last) B.pre
  have hown : s.vm.findClass RX12 = some m.cls := findClass_of_methodNamed B.named
  have hlocks := B.notSynchronized
  have S : CallFix p m c cX12_last 3 s ([.ref (sk_ad G 158)].toArray) wsX12_last RX12 := ⟨hx, hb, hml, hown, hts⟩
  have hL0 := hts (.fieldLink RX12 140 "SkyLightsModel" "flyers" "I") (by decide +kernel)
  have hL1 := hts (.fieldLink RX12 110 "SkyLightsModel" "margin" "I") (by decide +kernel)
  have hI12 : ∀ w ∈ u_ws RX12 TX12 53, w ∈ wsX12_last := by decide +kernel
  have hw : sk_W G 198 sk_t I s s.heap [] := ⟨hU, va_S.rf⟩
  have hl := lv_entry ([.ref (sk_ad G 158)]) (n := 3) (Nat.le_of_ble_eq_true rfl)
  rw [lg_entry_eq]
  generalize (lg_sl ([.ref (sk_ad G 158)]) ++ List.replicate (3 - (lg_sl ([.ref (sk_ad G 158)])).length) Slot.unset).toArray = ls at hl ⊢
  have hl : lv_has ls 3 [(0, .ref (sk_ad G 158))] := hl
  suffices hgo : ∀ (H : Heap) (locs : List Loc), sk_W G 198 sk_t I s H locs → W p l e (headSpec wsX12_last rmX12_last).room s m ([.ref (sk_ad G 158)].toArray) below meth c H locs 0 0 (MQ below (sk_Qi G 198 sk_t Q) ([.ref (sk_ad G 158)].toArray) s 0 0 (sk_A G)) (F0 m 0 ls []) from hgo _ _ hw
  have hJ_4 : ∀ (v1 v2 : Int) (I : sk_S), rI v1 → rI v2 → L_Mo_last_4 Q v1 v2 I → ∀ (H : Heap) (locs : List Loc) (ls : Array Slot), sk_W G 198 sk_t I s H locs → lv_has ls 3 [(0, .ref (sk_ad G 158)), (1, .int (iI v1)), (2, .int (iI v2))] → W p l e (headSpec wsX12_last rmX12_last).room s m ([.ref (sk_ad G 158)].toArray) below meth c H locs 0 0 (MQ below (sk_Qi G 198 sk_t Q) ([.ref (sk_ad G 158)].toArray) s 0 0 (sk_A G)) (F0 m 4 ls []) := by
    intro v1 v2 I hr_v1 hr_v2 hM H locs ls hw hl
    unfold L_Mo_last_4 at hM
    obtain ⟨X_4, hX_4⟩ : ∃ X : Int → Int → sk_S → Prop, ∀ (v1 v2 : Int) (I : sk_S), X v1 v2 I ↔ (rI v1 → rI v2 → ∀ (H : Heap) (locs : List Loc) (ls : Array Slot), sk_W G 198 sk_t I s H locs → lv_has ls 3 [(0, .ref (sk_ad G 158)), (1, .int (iI v1)), (2, .int (iI v2))] → W p l e (headSpec wsX12_last rmX12_last).room s m ([.ref (sk_ad G 158)].toArray) below meth c H locs 0 0 (MQ below (sk_Qi G 198 sk_t Q) ([.ref (sk_ad G 158)].toArray) s 0 0 (sk_A G)) (F0 m 4 ls [])) := ⟨_, fun _ _ _ => Iff.rfl⟩
    have hJ_32 : ∀ (v2 s0 s1 : Int) (I : sk_S), rI v2 → rI s0 → rI s1 → J_Mo_last_32 v2 s0 s1 Q X_4 I → ∀ (H : Heap) (locs : List Loc) (ls : Array Slot), sk_W G 198 sk_t I s H locs → lv_has ls 3 [(0, .ref (sk_ad G 158)), (2, .int (iI v2))] → W p l e (headSpec wsX12_last rmX12_last).room s m ([.ref (sk_ad G 158)].toArray) below meth c H locs 0 0 (MQ below (sk_Qi G 198 sk_t Q) ([.ref (sk_ad G 158)].toArray) s 0 0 (sk_A G)) (F0 m 32 ls [.int (iI s1), .int (iI s0)]) := by
      intro v2 s0 s1 I hr_v2 hr_s0 hr_s1 hM H locs ls hw hl
      unfold J_Mo_last_32 at hM
      refine sk_ior hx hb (okX12_last (32, .ior, 1) (List.mem_of_getElem? (i := 20) rfl)) ?_
      refine sk_nm (fun v1_33 ev1_33 => ?_)
      have hM := hM v1_33 ev1_33
      have hr_v1_33 : rI v1_33 := by rw [ev1_33]; exact (rI_of _)
      refine lv_istore_n (lv' := [(1, .int (iI v1_33)), (0, .ref (sk_ad G 158)), (2, .int (iI v2))]) hx hb (okX12_last (33, .istore_n 1, 1) (List.mem_of_getElem? (i := 21) rfl)) rfl hl (by decide) rfl (fun ls hl => ?_)
      obtain ⟨hr3, hM⟩ := hM
      obtain ⟨v2_34, ev2_34⟩ : ∃ y : Int, y = v2 + 1 := ⟨_, rfl⟩
      have hM := hM v2_34 ev2_34
      have hr_v2_34 : rI v2_34 := by rw [ev2_34]; exact hr3
      refine lv_iinc (v := iI v2_34) (lv' := [(2, .int (iI v2_34)), (1, .int (iI v1_33)), (0, .ref (sk_ad G 158))]) hx hb (okX12_last (34, .iinc 2 1, 3) (List.mem_of_getElem? (i := 22) rfl)) hl (k := 2) rfl (by rw [ev2_34]; exact iI_add _ _) (by decide) rfl (fun ls hl => ?_)
      refine lv_goto (tgt := 4) hx hb (okX12_last (37, .goto (-33), 3) (List.mem_of_getElem? (i := 23) rfl)) (by decide) ?_
      exact (hX_4 v1_33 v2_34 I).1 hM hr_v1_33 hr_v2_34 H locs ls hw (lv_sub hl [2, 1, 0] rfl)
    refine (hX_4 v1 v2 I).1 (hM X_4 (fun v1 v2 I hM => (hX_4 v1 v2 I).2 (fun hr_v1 hr_v2 H locs ls hw hl => ?_))) hr_v1 hr_v2 H locs ls hw hl
    refine lv_iload_n hx hb (okX12_last (4, .iload_n 2, 1) (List.mem_of_getElem? (i := 4) rfl)) rfl (lv_at hl 2 rfl) ?_
    refine lv_aload_n hx hb (okX12_last (5, .aload_n 0, 1) (List.mem_of_getElem? (i := 5) rfl)) rfl (lv_at hl 0 rfl) ?_
    have hr1 := hw.1.2.2 158 8
    refine sk_geti S hK hw kdn_158 (kd_in kdn_158) (C := RX12) (T := TX12) (N := 53) rfl hI12 8 ⟨by decide, rfl, by decide, rfl⟩ rfl (k' := 8) rfl hL0 (okX12_last (6, .getfield 140, 3) (List.mem_of_getElem? (i := 6) rfl)) ?_
    refine sk_icmp_ge (tgt := 40) hx hb hr_v2 hr1 (okX12_last (9, .if_icmp .ge 31, 3) (List.mem_of_getElem? (i := 7) rfl)) (by decide) (fun c9 => ?_) (fun c9 => ?_)
    · have hM := hM.1 c9
      refine lv_iload_n hx hb (okX12_last (40, .iload_n 1, 1) (List.mem_of_getElem? (i := 24) rfl)) rfl (lv_at hl 1 rfl) ?_
      exact sk_iret hx hb hr0 hlocks hK hw hr_v1 hM (okX12_last (41, .ireturn, 1) (List.mem_of_getElem? (i := 25) rfl))
    · have hM := hM.2 c9
      refine lv_iload_n hx hb (okX12_last (12, .iload_n 1, 1) (List.mem_of_getElem? (i := 8) rfl)) rfl (lv_at hl 1 rfl) ?_
      refine lv_aload_n hx hb (okX12_last (13, .aload_n 0, 1) (List.mem_of_getElem? (i := 9) rfl)) rfl (lv_at hl 0 rfl) ?_
      refine lv_iload_n hx hb (okX12_last (14, .iload_n 2, 1) (List.mem_of_getElem? (i := 10) rfl)) rfl (lv_at hl 2 rfl) ?_
      refine sk_ci (sk_runV (a := 158) (C := RX12) (As := [.int (iI v2)]) (rest := [.int (iI v1)]) S (c_Mo_leftTo l G hr_v2 hM) sk_blind gX12_last_X12_leftTo rfl hdX12_leftTo ⟨⟨rfl, rfl⟩, Nat.le_of_ble_eq_true rfl, Nat.le_of_ble_eq_true rfl⟩ (sk_recv hK hw kdn_158 (kd_in kdn_158) (by decide) rfl) (sk_pre hK hw) rfl hl.1 rfl (Nat.le_of_ble_eq_true rfl) (okX12_last (15, .invokevirtual 291, 3) (List.mem_of_getElem? (i := 11) rfl)) ⟨Nat.zero_le _, Nat.zero_le _⟩) hw (fun r_15 I_15 H locs hr_r_15 hM hw => ?_)
      refine lv_aload_n hx hb (okX12_last (18, .aload_n 0, 1) (List.mem_of_getElem? (i := 12) rfl)) rfl (lv_at hl 0 rfl) ?_
      have hr2 := hw.1.2.2 158 42
      refine sk_geti S hK hw kdn_158 (kd_in kdn_158) (C := RX12) (T := TX12) (N := 53) rfl hI12 42 ⟨by decide, rfl, by decide, rfl⟩ rfl (k' := 42) rfl hL1 (okX12_last (19, .getfield 110, 3) (List.mem_of_getElem? (i := 13) rfl)) ?_
      refine sk_icmp_lt (tgt := 31) hx hb hr_r_15 hr2 (okX12_last (22, .if_icmp .lt 9, 3) (List.mem_of_getElem? (i := 14) rfl)) (by decide) (fun c22 => ?_) (fun c22 => ?_)
      · have hM := hM.1 c22
        refine lv_iconst (v := iI 0) hx hb (okX12_last (31, .iconst 0, 1) (List.mem_of_getElem? (i := 19) rfl)) rfl ?_
        exact hJ_32 v2 v1 0 I_15 hr_v2 hr_v1 (by decide) hM H locs ls hw (lv_sub hl [0, 2] rfl)
      · have hM := hM.2 c22
        refine lv_iconst (v := iI 1) hx hb (okX12_last (25, .iconst 1, 1) (List.mem_of_getElem? (i := 15) rfl)) rfl ?_
        refine lv_iload_n hx hb (okX12_last (26, .iload_n 2, 1) (List.mem_of_getElem? (i := 16) rfl)) rfl (lv_at hl 2 rfl) ?_
        refine sk_ishl hx hb (okX12_last (27, .ishl, 1) (List.mem_of_getElem? (i := 17) rfl)) ?_
        refine lv_goto (tgt := 32) hx hb (okX12_last (28, .goto 4, 3) (List.mem_of_getElem? (i := 18) rfl)) (by decide) ?_
        exact hJ_32 v2 v1 (ishl 1 v2) I_15 hr_v2 hr_v1 (rI_of _) hM H locs ls hw (lv_sub hl [0, 2] rfl)
  unfold M_Mo_last at hM
  intro H locs hw
  refine lv_iconst (v := iI 0) hx hb (okX12_last (0, .iconst 0, 1) (List.mem_of_getElem? (i := 0) rfl)) rfl ?_
  refine lv_istore_n (lv' := [(1, .int (iI 0)), (0, .ref (sk_ad G 158))]) hx hb (okX12_last (1, .istore_n 1, 1) (List.mem_of_getElem? (i := 1) rfl)) rfl hl (by decide) rfl (fun ls hl => ?_)
  refine lv_iconst (v := iI 0) hx hb (okX12_last (2, .iconst 0, 1) (List.mem_of_getElem? (i := 2) rfl)) rfl ?_
  refine lv_istore_n (lv' := [(2, .int (iI 0)), (1, .int (iI 0)), (0, .ref (sk_ad G 158))]) hx hb (okX12_last (3, .istore_n 2, 1) (List.mem_of_getElem? (i := 3) rfl)) rfl hl (by decide) rfl (fun ls hl => ?_)
  exact hJ_4 0 0 I (by decide) (by decide) hM H locs ls hw (lv_sub hl [2, 1, 0] rfl)
def rmX12_least : Room := { frames := 2, cells := 0, slots := 0, locals := 106 }
set_option maxHeartbeats 4000000 in
set_option maxRecDepth 100000 in
theorem c_Mo_least (l : Launch) (G : sk_G) {p1 : Int} (hr_p1 : rI p1) {Q : Int → sk_S → Prop} {I : sk_S} (hM : M_Mo_least p1 Q I) : Met l yX12_least wsX12_least rmX12_least (va_Pc [.ref (sk_ad G 158), .int (iI p1)] (sk_U G 198 sk_t I)) (sk_Qi G 198 sk_t Q) 0 0 (sk_A G) := by
  refine Met.ofW (cc := cX12_least) (maxL := 6) (ret := (some .int)) (by decide) rfl ?_
  intro p e s m args below meth c s₁ B hml hv
  obtain ⟨rfl, hU, hK⟩ := hv
  have hx := B.exec
  have hb := B.bytes
  have hr0 := B.returns
  have hts := atoms_spec (ws := wsX12_least) B.pre
  have hown : s.vm.findClass RX12 = some m.cls := findClass_of_methodNamed B.named
  have hlocks := B.notSynchronized
  have S : CallFix p m c cX12_least 6 s ([.ref (sk_ad G 158), .int (iI p1)].toArray) wsX12_least RX12 := ⟨hx, hb, hml, hown, hts⟩
  have hL0 := hts (.fieldLink RX12 19 "SkyLightsModel" "size" "[I") (by decide +kernel)
  have hI12 : ∀ w ∈ u_ws RX12 TX12 53, w ∈ wsX12_least := by decide +kernel
  have hw : sk_W G 198 sk_t I s s.heap [] := ⟨hU, va_S.rf⟩
  have hl := lv_entry ([.ref (sk_ad G 158), .int (iI p1)]) (n := 6) (Nat.le_of_ble_eq_true rfl)
  rw [lg_entry_eq]
  generalize (lg_sl ([.ref (sk_ad G 158), .int (iI p1)]) ++ List.replicate (6 - (lg_sl ([.ref (sk_ad G 158), .int (iI p1)])).length) Slot.unset).toArray = ls at hl ⊢
  have hl : lv_has ls 6 [(0, .ref (sk_ad G 158)), (1, .int (iI p1))] := hl
  suffices hgo : ∀ (H : Heap) (locs : List Loc), sk_W G 198 sk_t I s H locs → W p l e (headSpec wsX12_least rmX12_least).room s m ([.ref (sk_ad G 158), .int (iI p1)].toArray) below meth c H locs 0 0 (MQ below (sk_Qi G 198 sk_t Q) ([.ref (sk_ad G 158), .int (iI p1)].toArray) s 0 0 (sk_A G)) (F0 m 0 ls []) from hgo _ _ hw
  have hJ_4 : ∀ (v1 v2 v3 : Int) (I : sk_S), rI v1 → rI v2 → rI v3 → L_Mo_least_4 v1 Q v2 v3 I → ∀ (H : Heap) (locs : List Loc) (ls : Array Slot), sk_W G 198 sk_t I s H locs → lv_has ls 6 [(0, .ref (sk_ad G 158)), (1, .int (iI v1)), (2, .int (iI v2)), (3, .int (iI v3))] → W p l e (headSpec wsX12_least rmX12_least).room s m ([.ref (sk_ad G 158), .int (iI p1)].toArray) below meth c H locs 0 0 (MQ below (sk_Qi G 198 sk_t Q) ([.ref (sk_ad G 158), .int (iI p1)].toArray) s 0 0 (sk_A G)) (F0 m 4 ls []) := by
    intro v1 v2 v3 I hr_v1 hr_v2 hr_v3 hM H locs ls hw hl
    unfold L_Mo_least_4 at hM
    obtain ⟨X_4, hX_4⟩ : ∃ X : Int → Int → sk_S → Prop, ∀ (v2 v3 : Int) (I : sk_S), X v2 v3 I ↔ (rI v2 → rI v3 → ∀ (H : Heap) (locs : List Loc) (ls : Array Slot), sk_W G 198 sk_t I s H locs → lv_has ls 6 [(0, .ref (sk_ad G 158)), (1, .int (iI v1)), (2, .int (iI v2)), (3, .int (iI v3))] → W p l e (headSpec wsX12_least rmX12_least).room s m ([.ref (sk_ad G 158), .int (iI p1)].toArray) below meth c H locs 0 0 (MQ below (sk_Qi G 198 sk_t Q) ([.ref (sk_ad G 158), .int (iI p1)].toArray) s 0 0 (sk_A G)) (F0 m 4 ls [])) := ⟨_, fun _ _ _ => Iff.rfl⟩
    have hJ_61 : ∀ (v2 v3 : Int) (I : sk_S), rI v2 → rI v3 → J_Mo_least_61 v1 v2 v3 Q X_4 I → ∀ (H : Heap) (locs : List Loc) (ls : Array Slot), sk_W G 198 sk_t I s H locs → lv_has ls 6 [(0, .ref (sk_ad G 158)), (1, .int (iI v1)), (2, .int (iI v2)), (3, .int (iI v3))] → W p l e (headSpec wsX12_least rmX12_least).room s m ([.ref (sk_ad G 158), .int (iI p1)].toArray) below meth c H locs 0 0 (MQ below (sk_Qi G 198 sk_t Q) ([.ref (sk_ad G 158), .int (iI p1)].toArray) s 0 0 (sk_A G)) (F0 m 61 ls []) := by
      intro v2 v3 I hr_v2 hr_v3 hM H locs ls hw hl
      unfold J_Mo_least_61 at hM
      obtain ⟨hr6, hM⟩ := hM
      obtain ⟨v3_61, ev3_61⟩ : ∃ y : Int, y = v3 + 1 := ⟨_, rfl⟩
      have hM := hM v3_61 ev3_61
      have hr_v3_61 : rI v3_61 := by rw [ev3_61]; exact hr6
      refine lv_iinc (v := iI v3_61) (lv' := [(3, .int (iI v3_61)), (0, .ref (sk_ad G 158)), (1, .int (iI v1)), (2, .int (iI v2))]) hx hb (okX12_least (61, .iinc 3 1, 3) (List.mem_of_getElem? (i := 37) rfl)) hl (k := 3) rfl (by rw [ev3_61]; exact iI_add _ _) (by decide) rfl (fun ls hl => ?_)
      refine lv_goto (tgt := 4) hx hb (okX12_least (64, .goto (-60), 3) (List.mem_of_getElem? (i := 38) rfl)) (by decide) ?_
      exact (hX_4 v2 v3_61 I).1 hM hr_v2 hr_v3_61 H locs ls hw (lv_sub hl [1, 2, 3, 0] rfl)
    have hJ_17 : ∀ (v3 v2 v4 : Int) (I : sk_S), rI v3 → rI v2 → rI v4 → L_Mo_least_17 v1 v3 Q X_4 v2 v4 I → ∀ (H : Heap) (locs : List Loc) (ls : Array Slot), sk_W G 198 sk_t I s H locs → lv_has ls 6 [(0, .ref (sk_ad G 158)), (1, .int (iI v1)), (2, .int (iI v2)), (3, .int (iI v3)), (4, .int (iI v4))] → W p l e (headSpec wsX12_least rmX12_least).room s m ([.ref (sk_ad G 158), .int (iI p1)].toArray) below meth c H locs 0 0 (MQ below (sk_Qi G 198 sk_t Q) ([.ref (sk_ad G 158), .int (iI p1)].toArray) s 0 0 (sk_A G)) (F0 m 17 ls []) := by
      intro v3 v2 v4 I hr_v3 hr_v2 hr_v4 hM H locs ls hw hl
      unfold L_Mo_least_17 at hM
      obtain ⟨X_17, hX_17⟩ : ∃ X : Int → Int → sk_S → Prop, ∀ (v2 v4 : Int) (I : sk_S), X v2 v4 I ↔ (rI v2 → rI v4 → ∀ (H : Heap) (locs : List Loc) (ls : Array Slot), sk_W G 198 sk_t I s H locs → lv_has ls 6 [(0, .ref (sk_ad G 158)), (1, .int (iI v1)), (2, .int (iI v2)), (3, .int (iI v3)), (4, .int (iI v4))] → W p l e (headSpec wsX12_least rmX12_least).room s m ([.ref (sk_ad G 158), .int (iI p1)].toArray) below meth c H locs 0 0 (MQ below (sk_Qi G 198 sk_t Q) ([.ref (sk_ad G 158), .int (iI p1)].toArray) s 0 0 (sk_A G)) (F0 m 17 ls [])) := ⟨_, fun _ _ _ => Iff.rfl⟩
      have hJ_55 : ∀ (v2 v4 : Int) (I : sk_S), rI v2 → rI v4 → J_Mo_least_55 v1 v2 v3 v4 Q X_4 X_17 I → ∀ (H : Heap) (locs : List Loc) (ls : Array Slot), sk_W G 198 sk_t I s H locs → lv_has ls 6 [(0, .ref (sk_ad G 158)), (1, .int (iI v1)), (2, .int (iI v2)), (3, .int (iI v3)), (4, .int (iI v4))] → W p l e (headSpec wsX12_least rmX12_least).room s m ([.ref (sk_ad G 158), .int (iI p1)].toArray) below meth c H locs 0 0 (MQ below (sk_Qi G 198 sk_t Q) ([.ref (sk_ad G 158), .int (iI p1)].toArray) s 0 0 (sk_A G)) (F0 m 55 ls []) := by
        intro v2 v4 I hr_v2 hr_v4 hM H locs ls hw hl
        unfold J_Mo_least_55 at hM
        obtain ⟨hr5, hM⟩ := hM
        obtain ⟨v4_55, ev4_55⟩ : ∃ y : Int, y = v4 + 1 := ⟨_, rfl⟩
        have hM := hM v4_55 ev4_55
        have hr_v4_55 : rI v4_55 := by rw [ev4_55]; exact hr5
        refine lv_iinc (v := iI v4_55) (lv' := [(4, .int (iI v4_55)), (0, .ref (sk_ad G 158)), (1, .int (iI v1)), (2, .int (iI v2)), (3, .int (iI v3))]) hx hb (okX12_least (55, .iinc 4 1, 3) (List.mem_of_getElem? (i := 35) rfl)) hl (k := 4) rfl (by rw [ev4_55]; exact iI_add _ _) (by decide) rfl (fun ls hl => ?_)
        refine lv_goto (tgt := 17) hx hb (okX12_least (58, .goto (-41), 3) (List.mem_of_getElem? (i := 36) rfl)) (by decide) ?_
        exact (hX_17 v2 v4_55 I).1 hM hr_v2 hr_v4_55 H locs ls hw (lv_sub hl [1, 2, 3, 4, 0] rfl)
      have hJ_52 : ∀ (v4 v5 : Int) (I : sk_S), rI v4 → rI v5 → J_Mo_least_52 v1 v3 v4 v5 Q X_4 X_17 I → ∀ (H : Heap) (locs : List Loc) (ls : Array Slot), sk_W G 198 sk_t I s H locs → lv_has ls 6 [(0, .ref (sk_ad G 158)), (1, .int (iI v1)), (3, .int (iI v3)), (4, .int (iI v4)), (5, .int (iI v5))] → W p l e (headSpec wsX12_least rmX12_least).room s m ([.ref (sk_ad G 158), .int (iI p1)].toArray) below meth c H locs 0 0 (MQ below (sk_Qi G 198 sk_t Q) ([.ref (sk_ad G 158), .int (iI p1)].toArray) s 0 0 (sk_A G)) (F0 m 52 ls []) := by
        intro v4 v5 I hr_v4 hr_v5 hM H locs ls hw hl
        unfold J_Mo_least_52 at hM
        refine lv_iload hx hb (okX12_least (52, .iload 5, 2) (List.mem_of_getElem? (i := 33) rfl)) (lv_at hl 4 rfl) ?_
        refine lv_istore_n (lv' := [(2, .int (iI v5)), (0, .ref (sk_ad G 158)), (1, .int (iI v1)), (3, .int (iI v3)), (4, .int (iI v4)), (5, .int (iI v5))]) hx hb (okX12_least (54, .istore_n 2, 1) (List.mem_of_getElem? (i := 34) rfl)) rfl hl (by decide) rfl (fun ls hl => ?_)
        exact hJ_55 v5 v4 I hr_v5 hr_v4 hM H locs ls hw (lv_sub hl [1, 2, 0, 3, 4] rfl)
      refine (hX_17 v2 v4 I).1 (hM X_17 (fun v2 v4 I hM => (hX_17 v2 v4 I).2 (fun hr_v2 hr_v4 H locs ls hw hl => ?_))) hr_v2 hr_v4 H locs ls hw hl
      refine lv_iload hx hb (okX12_least (17, .iload 4, 2) (List.mem_of_getElem? (i := 12) rfl)) (lv_at hl 4 rfl) ?_
      refine lv_iload_n hx hb (okX12_least (19, .iload_n 3, 1) (List.mem_of_getElem? (i := 13) rfl)) rfl (lv_at hl 3 rfl) ?_
      refine sk_icmp_ge (tgt := 61) hx hb hr_v4 hr_v3 (okX12_least (20, .if_icmp .ge 41, 3) (List.mem_of_getElem? (i := 14) rfl)) (by decide) (fun c20 => ?_) (fun c20 => ?_)
      · have hM := hM.1 c20
        exact hJ_61 v2 v3 I hr_v2 hr_v3 hM H locs ls hw (lv_sub hl [0, 1, 2, 3] rfl)
      · have hM := hM.2 c20
        refine lv_aload_n hx hb (okX12_least (23, .aload_n 0, 1) (List.mem_of_getElem? (i := 15) rfl)) rfl (lv_at hl 0 rfl) ?_
        refine lv_bipush (v := iI 10) hx hb (okX12_least (24, .bipush 10, 2) (List.mem_of_getElem? (i := 16) rfl)) (by decide +kernel) ?_
        refine lv_iload_n hx hb (okX12_least (26, .iload_n 1, 1) (List.mem_of_getElem? (i := 17) rfl)) rfl (lv_at hl 1 rfl) ?_
        refine sk_imul hx hb (okX12_least (27, .imul, 1) (List.mem_of_getElem? (i := 18) rfl)) ?_
        refine lv_iload_n hx hb (okX12_least (28, .iload_n 3, 1) (List.mem_of_getElem? (i := 19) rfl)) rfl (lv_at hl 3 rfl) ?_
        refine sk_iadd hx hb (okX12_least (29, .iadd, 1) (List.mem_of_getElem? (i := 20) rfl)) ?_
        refine lv_bipush (v := iI 10) hx hb (okX12_least (30, .bipush 10, 2) (List.mem_of_getElem? (i := 21) rfl)) (by decide +kernel) ?_
        refine lv_iload_n hx hb (okX12_least (32, .iload_n 1, 1) (List.mem_of_getElem? (i := 22) rfl)) rfl (lv_at hl 1 rfl) ?_
        refine sk_imul hx hb (okX12_least (33, .imul, 1) (List.mem_of_getElem? (i := 23) rfl)) ?_
        refine lv_iload hx hb (okX12_least (34, .iload 4, 2) (List.mem_of_getElem? (i := 24) rfl)) (lv_at hl 4 rfl) ?_
        refine sk_iadd hx hb (okX12_least (36, .iadd, 1) (List.mem_of_getElem? (i := 25) rfl)) ?_
        obtain ⟨hr3, hM⟩ := hM
        obtain ⟨hr4, hM⟩ := hM
        refine sk_ci (sk_runV (a := 158) (C := RX12) (As := [.int (iI ((10 * v1) + v3)), .int (iI ((10 * v1) + v4))]) (rest := []) S (c_Mo_apart l G hr3 hr4 hM) sk_blind gX12_least_X12_apart rfl hdX12_apart ⟨⟨rfl, rfl⟩, Nat.le_of_ble_eq_true rfl, Nat.le_of_ble_eq_true rfl⟩ (sk_recv hK hw kdn_158 (kd_in kdn_158) (by decide) rfl) (sk_pre hK hw) rfl hl.1 rfl (Nat.le_of_ble_eq_true rfl) (okX12_least (37, .invokevirtual 196, 3) (List.mem_of_getElem? (i := 26) rfl)) ⟨Nat.zero_le _, Nat.zero_le _⟩) hw (fun r_37 I_37 H locs hr_r_37 hM hw => ?_)
        refine lv_istore (lv' := [(5, .int (iI r_37)), (0, .ref (sk_ad G 158)), (1, .int (iI v1)), (2, .int (iI v2)), (3, .int (iI v3)), (4, .int (iI v4))]) hx hb (okX12_least (40, .istore 5, 2) (List.mem_of_getElem? (i := 27) rfl)) hl (by decide) rfl (fun ls hl => ?_)
        refine lv_iload_n hx hb (okX12_least (42, .iload_n 2, 1) (List.mem_of_getElem? (i := 28) rfl)) rfl (lv_at hl 3 rfl) ?_
        refine sk_if_lt (tgt := 52) hx hb hr_v2 (okX12_least (43, .ifCond .lt 9, 3) (List.mem_of_getElem? (i := 29) rfl)) (by decide) (fun c43 => ?_) (fun c43 => ?_)
        · have hM := hM.1 c43
          exact hJ_52 v4 r_37 I_37 hr_v4 hr_r_37 hM H locs ls hw (lv_sub hl [1, 2, 4, 5, 0] rfl)
        · have hM := hM.2 c43
          refine lv_iload hx hb (okX12_least (46, .iload 5, 2) (List.mem_of_getElem? (i := 30) rfl)) (lv_at hl 0 rfl) ?_
          refine lv_iload_n hx hb (okX12_least (48, .iload_n 2, 1) (List.mem_of_getElem? (i := 31) rfl)) rfl (lv_at hl 3 rfl) ?_
          refine sk_icmp_ge (tgt := 55) hx hb hr_r_37 hr_v2 (okX12_least (49, .if_icmp .ge 6, 3) (List.mem_of_getElem? (i := 32) rfl)) (by decide) (fun c49 => ?_) (fun c49 => ?_)
          · have hM := hM.1 c49
            exact hJ_55 v2 v4 I_37 hr_v2 hr_v4 hM H locs ls hw (lv_sub hl [1, 2, 3, 4, 5] rfl)
          · have hM := hM.2 c49
            exact hJ_52 v4 r_37 I_37 hr_v4 hr_r_37 hM H locs ls hw (lv_sub hl [1, 2, 4, 5, 0] rfl)
    refine (hX_4 v2 v3 I).1 (hM X_4 (fun v2 v3 I hM => (hX_4 v2 v3 I).2 (fun hr_v2 hr_v3 H locs ls hw hl => ?_))) hr_v2 hr_v3 H locs ls hw hl
    refine lv_iload_n hx hb (okX12_least (4, .iload_n 3, 1) (List.mem_of_getElem? (i := 4) rfl)) rfl (lv_at hl 3 rfl) ?_
    refine lv_aload_n hx hb (okX12_least (5, .aload_n 0, 1) (List.mem_of_getElem? (i := 5) rfl)) rfl (lv_at hl 0 rfl) ?_
    refine sk_getr (b := 162) S hK hw kdn_158 (kd_in kdn_158) (C := RX12) (T := TX12) (N := 53) rfl hI12 3 ⟨by decide, rfl, by decide, rfl⟩ rfl (k' := 3) rfl rfl (by decide +kernel) hL0 (okX12_least (6, .getfield 19, 3) (List.mem_of_getElem? (i := 6) rfl)) ?_
    refine lv_iload_n hx hb (okX12_least (9, .iload_n 1, 1) (List.mem_of_getElem? (i := 7) rfl)) rfl (lv_at hl 1 rfl) ?_
    obtain ⟨hi1, hM⟩ := hM
    have hr2 := hw.1.2.2 162 v1
    refine sk_ild S hK hw kdn_162 (kd_in kdn_162) (by rw [lnn_162]; exact hi1) (okX12_least (10, .iaload, 1) (List.mem_of_getElem? (i := 8) rfl)) ?_
    refine sk_icmp_ge (tgt := 67) hx hb hr_v3 hr2 (okX12_least (11, .if_icmp .ge 56, 3) (List.mem_of_getElem? (i := 9) rfl)) (by decide) (fun c11 => ?_) (fun c11 => ?_)
    · have hM := hM.1 c11
      refine lv_iload_n hx hb (okX12_least (67, .iload_n 2, 1) (List.mem_of_getElem? (i := 39) rfl)) rfl (lv_at hl 2 rfl) ?_
      exact sk_iret hx hb hr0 hlocks hK hw hr_v2 hM (okX12_least (68, .ireturn, 1) (List.mem_of_getElem? (i := 40) rfl))
    · have hM := hM.2 c11
      refine lv_iconst (v := iI 0) hx hb (okX12_least (14, .iconst 0, 1) (List.mem_of_getElem? (i := 10) rfl)) rfl ?_
      refine lv_istore (lv' := [(4, .int (iI 0)), (0, .ref (sk_ad G 158)), (1, .int (iI v1)), (2, .int (iI v2)), (3, .int (iI v3))]) hx hb (okX12_least (15, .istore 4, 2) (List.mem_of_getElem? (i := 11) rfl)) hl (by decide) rfl (fun ls hl => ?_)
      exact hJ_17 v3 v2 0 I hr_v3 hr_v2 (by decide) hM H locs ls hw (lv_sub hl [1, 2, 3, 4, 0] rfl)
  unfold M_Mo_least at hM
  intro H locs hw
  refine lv_iconst (v := iI (-1)) hx hb (okX12_least (0, .iconst (-1), 1) (List.mem_of_getElem? (i := 0) rfl)) rfl ?_
  refine lv_istore_n (lv' := [(2, .int (iI ((-1)))), (0, .ref (sk_ad G 158)), (1, .int (iI p1))]) hx hb (okX12_least (1, .istore_n 2, 1) (List.mem_of_getElem? (i := 1) rfl)) rfl hl (by decide) rfl (fun ls hl => ?_)
  refine lv_iconst (v := iI 0) hx hb (okX12_least (2, .iconst 0, 1) (List.mem_of_getElem? (i := 2) rfl)) rfl ?_
  refine lv_istore_n (lv' := [(3, .int (iI 0)), (2, .int (iI ((-1)))), (0, .ref (sk_ad G 158)), (1, .int (iI p1))]) hx hb (okX12_least (3, .istore_n 3, 1) (List.mem_of_getElem? (i := 3) rfl)) rfl hl (by decide) rfl (fun ls hl => ?_)
  exact hJ_4 p1 ((-1)) 0 I hr_p1 (by decide) (by decide) hM H locs ls hw (lv_sub hl [2, 3, 1, 0] rfl)
def rmX12_left : Room := { frames := 2, cells := 0, slots := 0, locals := 109 }
set_option maxHeartbeats 4000000 in
set_option maxRecDepth 100000 in
theorem c_Mo_left (l : Launch) (G : sk_G) {p1 : Int} (hr_p1 : rI p1) {Q : Int → sk_S → Prop} {I : sk_S} (hM : M_Mo_left p1 Q I) : Met l yX12_left wsX12_left rmX12_left (va_Pc [.ref (sk_ad G 158), .int (iI p1)] (sk_U G 198 sk_t I)) (sk_Qi G 198 sk_t Q) 0 0 (sk_A G) := by
  refine Met.ofW (cc := cX12_left) (maxL := 2) (ret := (some .int)) (by decide) rfl ?_
  intro p e s m args below meth c s₁ B hml hv
  obtain ⟨rfl, hU, hK⟩ := hv
  have hx := B.exec
  have hb := B.bytes
  have hr0 := B.returns
  have hts := atoms_spec (ws := wsX12_left) B.pre
  have hown : s.vm.findClass RX12 = some m.cls := findClass_of_methodNamed B.named
  have hlocks := B.notSynchronized
  have S : CallFix p m c cX12_left 2 s ([.ref (sk_ad G 158), .int (iI p1)].toArray) wsX12_left RX12 := ⟨hx, hb, hml, hown, hts⟩
  have hL0 := hts (.constant RX12 294 (-1000000)) (by decide +kernel)
  have hw : sk_W G 198 sk_t I s s.heap [] := ⟨hU, va_S.rf⟩
  have hl := lv_entry ([.ref (sk_ad G 158), .int (iI p1)]) (n := 2) (Nat.le_of_ble_eq_true rfl)
  rw [lg_entry_eq]
  generalize (lg_sl ([.ref (sk_ad G 158), .int (iI p1)]) ++ List.replicate (2 - (lg_sl ([.ref (sk_ad G 158), .int (iI p1)])).length) Slot.unset).toArray = ls at hl ⊢
  have hl : lv_has ls 2 [(0, .ref (sk_ad G 158)), (1, .int (iI p1))] := hl
  suffices hgo : ∀ (H : Heap) (locs : List Loc), sk_W G 198 sk_t I s H locs → W p l e (headSpec wsX12_left rmX12_left).room s m ([.ref (sk_ad G 158), .int (iI p1)].toArray) below meth c H locs 0 0 (MQ below (sk_Qi G 198 sk_t Q) ([.ref (sk_ad G 158), .int (iI p1)].toArray) s 0 0 (sk_A G)) (F0 m 0 ls []) from hgo _ _ hw
  unfold M_Mo_left at hM
  intro H locs hw
  refine lv_aload_n hx hb (okX12_left (0, .aload_n 0, 1) (List.mem_of_getElem? (i := 0) rfl)) rfl (lv_at hl 0 rfl) ?_
  refine lv_iload_n hx hb (okX12_left (1, .iload_n 1, 1) (List.mem_of_getElem? (i := 1) rfl)) rfl (lv_at hl 1 rfl) ?_
  refine sk_ci (sk_runV (a := 158) (C := RX12) (As := [.int (iI p1)]) (rest := []) S (c_Mo_isFlyer l G hr_p1 hM) sk_blind gX12_left_X12_isFlyer rfl hdX12_isFlyer ⟨⟨rfl, rfl⟩, Nat.le_of_ble_eq_true rfl, Nat.le_of_ble_eq_true rfl⟩ (sk_recv hK hw kdn_158 (kd_in kdn_158) (by decide) rfl) (sk_pre hK hw) rfl hl.1 rfl (Nat.le_of_ble_eq_true rfl) (okX12_left (2, .invokevirtual 282, 3) (List.mem_of_getElem? (i := 2) rfl)) ⟨Nat.zero_le _, Nat.zero_le _⟩) hw (fun r_2 I_2 H locs hr_r_2 hM hw => ?_)
  obtain ⟨hb_r_2, hM⟩ := hM
  refine sk_if_eq (tgt := 16) hx hb hr_r_2 (okX12_left (5, .ifCond .eq 11, 3) (List.mem_of_getElem? (i := 3) rfl)) (by decide) (fun c5 => ?_) (fun c5 => ?_)
  · have hM := hM.1 c5
    refine lv_ldcw (v := iI (-1000000)) hx hb hown (by rw [show iI (-1000000) = (-1000000 : Int32) from by decide +kernel]; exact hL0) (okX12_left (16, .ldc_w 294, 3) (List.mem_of_getElem? (i := 8) rfl)) ?_
    exact sk_iret hx hb hr0 hlocks hK hw (by decide) hM (okX12_left (19, .ireturn, 1) (List.mem_of_getElem? (i := 9) rfl))
  · have hM := hM.2 c5
    refine lv_aload_n hx hb (okX12_left (8, .aload_n 0, 1) (List.mem_of_getElem? (i := 4) rfl)) rfl (lv_at hl 0 rfl) ?_
    refine lv_iload_n hx hb (okX12_left (9, .iload_n 1, 1) (List.mem_of_getElem? (i := 5) rfl)) rfl (lv_at hl 1 rfl) ?_
    refine sk_ci (sk_runV (a := 158) (C := RX12) (As := [.int (iI p1)]) (rest := []) S (c_Mo_leftTo l G hr_p1 hM) sk_blind gX12_left_X12_leftTo rfl hdX12_leftTo ⟨⟨rfl, rfl⟩, Nat.le_of_ble_eq_true rfl, Nat.le_of_ble_eq_true rfl⟩ (sk_recv hK hw kdn_158 (kd_in kdn_158) (by decide) rfl) (sk_pre hK hw) rfl hl.1 rfl (Nat.le_of_ble_eq_true rfl) (okX12_left (10, .invokevirtual 291, 3) (List.mem_of_getElem? (i := 6) rfl)) ⟨Nat.zero_le _, Nat.zero_le _⟩) hw (fun r_10 I_10 H locs hr_r_10 hM hw => ?_)
    refine lv_goto (tgt := 19) hx hb (okX12_left (13, .goto 6, 3) (List.mem_of_getElem? (i := 7) rfl)) (by decide) ?_
    exact sk_iret hx hb hr0 hlocks hK hw hr_r_10 hM (okX12_left (19, .ireturn, 1) (List.mem_of_getElem? (i := 9) rfl))
def rmX12_margin : Room := { frames := 1, cells := 0, slots := 0, locals := 57 }
set_option maxHeartbeats 4000000 in
set_option maxRecDepth 100000 in
theorem c_Mo_margin (l : Launch) (G : sk_G) {p1 : Int} (hr_p1 : rI p1) {Q : Int → sk_S → Prop} {I : sk_S} (hM : M_Mo_margin p1 Q I) : Met l yX12_margin wsX12_margin rmX12_margin (va_Pc [.ref (sk_ad G 158), .int (iI p1)] (sk_U G 198 sk_t I)) (sk_Qi G 198 sk_t Q) 0 0 (sk_A G) := by
  refine Met.ofW (cc := cX12_margin) (maxL := 3) (ret := (some .int)) (by decide) rfl ?_
  intro p e s m args below meth c s₁ B hml hv
  obtain ⟨rfl, hU, hK⟩ := hv
  have hx := B.exec
  have hb := B.bytes
  have hr0 := B.returns
  have hts := atoms_spec (ws := wsX12_margin) B.pre
  have hown : s.vm.findClass RX12 = some m.cls := findClass_of_methodNamed B.named
  have hlocks := B.notSynchronized
  have S : CallFix p m c cX12_margin 3 s ([.ref (sk_ad G 158), .int (iI p1)].toArray) wsX12_margin RX12 := ⟨hx, hb, hml, hown, hts⟩
  have hL0 := hts (.constantLong RX12 295 (10000)) (by decide +kernel)
  have hL1 := hts (.fieldLink RX12 110 "SkyLightsModel" "margin" "I") (by decide +kernel)
  have hI12 : ∀ w ∈ u_ws RX12 TX12 53, w ∈ wsX12_margin := by decide +kernel
  have hw : sk_W G 198 sk_t I s s.heap [] := ⟨hU, va_S.rf⟩
  have hl := lv_entry ([.ref (sk_ad G 158), .int (iI p1)]) (n := 3) (Nat.le_of_ble_eq_true rfl)
  rw [lg_entry_eq]
  generalize (lg_sl ([.ref (sk_ad G 158), .int (iI p1)]) ++ List.replicate (3 - (lg_sl ([.ref (sk_ad G 158), .int (iI p1)])).length) Slot.unset).toArray = ls at hl ⊢
  have hl : lv_has ls 3 [(0, .ref (sk_ad G 158)), (1, .int (iI p1))] := hl
  suffices hgo : ∀ (H : Heap) (locs : List Loc), sk_W G 198 sk_t I s H locs → W p l e (headSpec wsX12_margin rmX12_margin).room s m ([.ref (sk_ad G 158), .int (iI p1)].toArray) below meth c H locs 0 0 (MQ below (sk_Qi G 198 sk_t Q) ([.ref (sk_ad G 158), .int (iI p1)].toArray) s 0 0 (sk_A G)) (F0 m 0 ls []) from hgo _ _ hw
  unfold M_Mo_margin at hM
  intro H locs hw
  refine lv_iload_n hx hb (okX12_margin (0, .iload_n 1, 1) (List.mem_of_getElem? (i := 0) rfl)) rfl (lv_at hl 1 rfl) ?_
  refine sk_i2l hx hb hr_p1 (okX12_margin (1, .i2l, 1) (List.mem_of_getElem? (i := 1) rfl)) ?_
  refine lv_lconst (v := lI 0) hx hb (okX12_margin (2, .lconst 0, 1) (List.mem_of_getElem? (i := 2) rfl)) (by decide +kernel) ?_
  refine lv_ldc2 (v := lI 10000) hx hb hown (by rw [show lI 10000 = (10000 : Int64) from by decide +kernel]; exact hL0) (okX12_margin (3, .ldc2_w 295, 3) (List.mem_of_getElem? (i := 3) rfl)) ?_
  refine sk_ci (sk_runS (As := [.long (lI p1), .long (lI 0), .long (lI 10000)]) (rest := []) S (c_Mo_isIn l G ⟨Int.le_trans (by decide) (hr_p1).1, Int.lt_trans (hr_p1).2 (by decide)⟩ (by decide) (by decide) hM) sk_blind gX12_margin_X12_isIn rfl hdX12_isIn ⟨⟨rfl, rfl⟩, Nat.le_of_ble_eq_true rfl, Nat.le_of_ble_eq_true rfl⟩ (sk_pre hK hw) rfl hl.1 rfl (Nat.le_of_ble_eq_true rfl) (okX12_margin (6, .invokestatic 150, 3) (List.mem_of_getElem? (i := 4) rfl)) ⟨Nat.zero_le _, Nat.zero_le _⟩) hw (fun r_6 I_6 H locs hr_r_6 hM hw => ?_)
  obtain ⟨hb_r_6, hM⟩ := hM
  refine sk_if_ne (tgt := 15) hx hb hr_r_6 (okX12_margin (9, .ifCond .ne 6, 3) (List.mem_of_getElem? (i := 5) rfl)) (by decide) (fun c9 => ?_) (fun c9 => ?_)
  · have hM := hM.1 c9
    refine lv_aload_n hx hb (okX12_margin (15, .aload_n 0, 1) (List.mem_of_getElem? (i := 8) rfl)) rfl (lv_at hl 0 rfl) ?_
    have hr1 := hw.1.2.2 158 42
    refine sk_geti S hK hw kdn_158 (kd_in kdn_158) (C := RX12) (T := TX12) (N := 53) rfl hI12 42 ⟨by decide, rfl, by decide, rfl⟩ rfl (k' := 42) rfl hL1 (okX12_margin (16, .getfield 110, 3) (List.mem_of_getElem? (i := 9) rfl)) ?_
    refine sk_nm (fun v2_19 ev2_19 => ?_)
    have hM := hM v2_19 ev2_19
    have hr_v2_19 : rI v2_19 := by rw [ev2_19]; exact hr1
    refine lv_istore_n (lv' := [(2, .int (iI v2_19)), (0, .ref (sk_ad G 158)), (1, .int (iI p1))]) hx hb (okX12_margin (19, .istore_n 2, 1) (List.mem_of_getElem? (i := 10) rfl)) rfl hl (by decide) rfl (fun ls hl => ?_)
    refine lv_aload_n hx hb (okX12_margin (20, .aload_n 0, 1) (List.mem_of_getElem? (i := 11) rfl)) rfl (lv_at hl 1 rfl) ?_
    refine lv_iload_n hx hb (okX12_margin (21, .iload_n 1, 1) (List.mem_of_getElem? (i := 12) rfl)) rfl (lv_at hl 2 rfl) ?_
    refine sk_put S hK hw kdn_158 (kd_in kdn_158) (C := RX12) (T := TX12) (N := 53) rfl hI12 tyX12 tyX12_ok nmX12 42 ⟨by decide, rfl, by decide, rfl⟩ rfl rfl (k' := 42) rfl hr_p1 ⟨rfl, rfl⟩ hL1 (okX12_margin (22, .putfield 110, 3) (List.mem_of_getElem? (i := 13) rfl)) (fun H locs hw => ?_)
    refine lv_iload_n hx hb (okX12_margin (25, .iload_n 2, 1) (List.mem_of_getElem? (i := 14) rfl)) rfl (lv_at hl 0 rfl) ?_
    exact sk_iret hx hb hr0 hlocks hK hw hr_v2_19 hM (okX12_margin (26, .ireturn, 1) (List.mem_of_getElem? (i := 15) rfl))
  · have hM := hM.2 c9
    refine lv_bipush (v := iI (-2)) hx hb (okX12_margin (12, .bipush (-2), 2) (List.mem_of_getElem? (i := 6) rfl)) (by decide +kernel) ?_
    exact sk_iret hx hb hr0 hlocks hK hw (by decide) hM (okX12_margin (14, .ireturn, 1) (List.mem_of_getElem? (i := 7) rfl))
def rmX12_mark : Room := { frames := 1, cells := 0, slots := 0, locals := 57 }
set_option maxHeartbeats 4000000 in
set_option maxRecDepth 100000 in
theorem c_Mo_mark (l : Launch) (G : sk_G) {p1 p2 p3 p4 p5 : Int} (hr_p1 : rI p1) (hr_p2 : rI p2) (hr_p3 : rI p3) (hr_p4 : rI p4) (hr_p5 : rI p5) {Q : Int → sk_S → Prop} {I : sk_S} (hM : M_Mo_mark p1 p2 p3 p4 p5 Q I) : Met l yX12_mark wsX12_mark rmX12_mark (va_Pc [.ref (sk_ad G 158), .int (iI p1), .int (iI p2), .int (iI p3), .int (iI p4), .int (iI p5)] (sk_U G 198 sk_t I)) (sk_Qi G 198 sk_t Q) 0 0 (sk_A G) := by
  refine Met.ofW (cc := cX12_mark) (maxL := 7) (ret := (some .int)) (by decide) rfl ?_
  intro p e s m args below meth c s₁ B hml hv
  obtain ⟨rfl, hU, hK⟩ := hv
  have hx := B.exec
  have hb := B.bytes
  have hr0 := B.returns
  have hts := atoms_spec (ws := wsX12_mark) B.pre
  have hown : s.vm.findClass RX12 = some m.cls := findClass_of_methodNamed B.named
  have hlocks := B.notSynchronized
  have S : CallFix p m c cX12_mark 7 s ([.ref (sk_ad G 158), .int (iI p1), .int (iI p2), .int (iI p3), .int (iI p4), .int (iI p5)].toArray) wsX12_mark RX12 := ⟨hx, hb, hml, hown, hts⟩
  have hL0 := hts (.constantLong RX12 263 (9)) (by decide +kernel)
  have hL1 := hts (.constantLong RX12 303 (999)) (by decide +kernel)
  have hL2 := hts (.constantLong RX12 146 (-200)) (by decide +kernel)
  have hL3 := hts (.constantLong RX12 148 (200)) (by decide +kernel)
  have hL4 := hts (.fieldLink RX12 305 "SkyLightsModel" "marks" "I") (by decide +kernel)
  have hL5 := hts (.fieldLink RX12 113 "SkyLightsModel" "markFlyer" "[I") (by decide +kernel)
  have hL6 := hts (.fieldLink RX12 116 "SkyLightsModel" "markTick" "[I") (by decide +kernel)
  have hL7 := hts (.fieldLink RX12 119 "SkyLightsModel" "markX" "[I") (by decide +kernel)
  have hL8 := hts (.fieldLink RX12 122 "SkyLightsModel" "markY" "[I") (by decide +kernel)
  have hL9 := hts (.fieldLink RX12 125 "SkyLightsModel" "markZ" "[I") (by decide +kernel)
  have hI12 : ∀ w ∈ u_ws RX12 TX12 53, w ∈ wsX12_mark := by decide +kernel
  have hw : sk_W G 198 sk_t I s s.heap [] := ⟨hU, va_S.rf⟩
  have hl := lv_entry ([.ref (sk_ad G 158), .int (iI p1), .int (iI p2), .int (iI p3), .int (iI p4), .int (iI p5)]) (n := 7) (Nat.le_of_ble_eq_true rfl)
  rw [lg_entry_eq]
  generalize (lg_sl ([.ref (sk_ad G 158), .int (iI p1), .int (iI p2), .int (iI p3), .int (iI p4), .int (iI p5)]) ++ List.replicate (7 - (lg_sl ([.ref (sk_ad G 158), .int (iI p1), .int (iI p2), .int (iI p3), .int (iI p4), .int (iI p5)])).length) Slot.unset).toArray = ls at hl ⊢
  have hl : lv_has ls 7 [(0, .ref (sk_ad G 158)), (1, .int (iI p1)), (2, .int (iI p2)), (3, .int (iI p3)), (4, .int (iI p4)), (5, .int (iI p5))] := hl
  suffices hgo : ∀ (H : Heap) (locs : List Loc), sk_W G 198 sk_t I s H locs → W p l e (headSpec wsX12_mark rmX12_mark).room s m ([.ref (sk_ad G 158), .int (iI p1), .int (iI p2), .int (iI p3), .int (iI p4), .int (iI p5)].toArray) below meth c H locs 0 0 (MQ below (sk_Qi G 198 sk_t Q) ([.ref (sk_ad G 158), .int (iI p1), .int (iI p2), .int (iI p3), .int (iI p4), .int (iI p5)].toArray) s 0 0 (sk_A G)) (F0 m 0 ls []) from hgo _ _ hw
  have hJ_114 : ∀ (v1 v2 v3 v4 v5 : Int) (I : sk_S), rI v1 → rI v2 → rI v3 → rI v4 → rI v5 → J_Mo_mark_114 v1 v2 v3 v4 v5 Q I → ∀ (H : Heap) (locs : List Loc) (ls : Array Slot), sk_W G 198 sk_t I s H locs → lv_has ls 7 [(0, .ref (sk_ad G 158)), (1, .int (iI v1)), (2, .int (iI v2)), (3, .int (iI v3)), (4, .int (iI v4)), (5, .int (iI v5))] → W p l e (headSpec wsX12_mark rmX12_mark).room s m ([.ref (sk_ad G 158), .int (iI p1), .int (iI p2), .int (iI p3), .int (iI p4), .int (iI p5)].toArray) below meth c H locs 0 0 (MQ below (sk_Qi G 198 sk_t Q) ([.ref (sk_ad G 158), .int (iI p1), .int (iI p2), .int (iI p3), .int (iI p4), .int (iI p5)].toArray) s 0 0 (sk_A G)) (F0 m 114 ls []) := by
    intro v1 v2 v3 v4 v5 I hr_v1 hr_v2 hr_v3 hr_v4 hr_v5 hM H locs ls hw hl
    unfold J_Mo_mark_114 at hM
    refine lv_aload_n hx hb (okX12_mark (114, .aload_n 0, 1) (List.mem_of_getElem? (i := 56) rfl)) rfl (lv_at hl 0 rfl) ?_
    have hr7 := hw.1.2.2 158 48
    refine sk_geti S hK hw kdn_158 (kd_in kdn_158) (C := RX12) (T := TX12) (N := 53) rfl hI12 48 ⟨by decide, rfl, by decide, rfl⟩ rfl (k' := 48) rfl hL4 (okX12_mark (115, .getfield 305, 3) (List.mem_of_getElem? (i := 57) rfl)) ?_
    refine lv_sipush (v := iI 200) hx hb (okX12_mark (118, .sipush 200, 3) (List.mem_of_getElem? (i := 58) rfl)) (by decide +kernel) ?_
    refine sk_icmp_ne (tgt := 127) hx hb hr7 (by decide) (okX12_mark (121, .if_icmp .ne 6, 3) (List.mem_of_getElem? (i := 59) rfl)) (by decide) (fun c121 => ?_) (fun c121 => ?_)
    · have hM := hM.1 c121
      refine lv_aload_n hx hb (okX12_mark (127, .aload_n 0, 1) (List.mem_of_getElem? (i := 62) rfl)) rfl (lv_at hl 0 rfl) ?_
      refine sk_getr (b := 191) S hK hw kdn_158 (kd_in kdn_158) (C := RX12) (T := TX12) (N := 53) rfl hI12 43 ⟨by decide, rfl, by decide, rfl⟩ rfl (k' := 43) rfl rfl (by decide +kernel) hL5 (okX12_mark (128, .getfield 113, 3) (List.mem_of_getElem? (i := 63) rfl)) ?_
      refine lv_aload_n hx hb (okX12_mark (131, .aload_n 0, 1) (List.mem_of_getElem? (i := 64) rfl)) rfl (lv_at hl 0 rfl) ?_
      have hr8 := hw.1.2.2 158 48
      refine sk_geti S hK hw kdn_158 (kd_in kdn_158) (C := RX12) (T := TX12) (N := 53) rfl hI12 48 ⟨by decide, rfl, by decide, rfl⟩ rfl (k' := 48) rfl hL4 (okX12_mark (132, .getfield 305, 3) (List.mem_of_getElem? (i := 65) rfl)) ?_
      refine lv_iload_n hx hb (okX12_mark (135, .iload_n 1, 1) (List.mem_of_getElem? (i := 66) rfl)) rfl (lv_at hl 1 rfl) ?_
      obtain ⟨hi9, hM⟩ := hM
      refine sk_ist S hK hw kdn_191 (kd_in kdn_191) (by rw [lnn_191]; exact hi9) hr_v1 (okX12_mark (136, .iastore, 1) (List.mem_of_getElem? (i := 67) rfl)) (fun H locs hw => ?_)
      refine lv_aload_n hx hb (okX12_mark (137, .aload_n 0, 1) (List.mem_of_getElem? (i := 68) rfl)) rfl (lv_at hl 0 rfl) ?_
      refine sk_getr (b := 192) S hK hw kdn_158 (kd_in kdn_158) (C := RX12) (T := TX12) (N := 53) rfl hI12 44 ⟨by decide, rfl, by decide, rfl⟩ rfl (k' := 44) rfl rfl (by decide +kernel) hL6 (okX12_mark (138, .getfield 116, 3) (List.mem_of_getElem? (i := 69) rfl)) ?_
      refine lv_aload_n hx hb (okX12_mark (141, .aload_n 0, 1) (List.mem_of_getElem? (i := 70) rfl)) rfl (lv_at hl 0 rfl) ?_
      have hr10 := hw.1.2.2 158 48
      refine sk_geti S hK hw kdn_158 (kd_in kdn_158) (C := RX12) (T := TX12) (N := 53) rfl hI12 48 ⟨by decide, rfl, by decide, rfl⟩ rfl (k' := 48) rfl hL4 (okX12_mark (142, .getfield 305, 3) (List.mem_of_getElem? (i := 71) rfl)) ?_
      refine lv_iload_n hx hb (okX12_mark (145, .iload_n 2, 1) (List.mem_of_getElem? (i := 72) rfl)) rfl (lv_at hl 2 rfl) ?_
      obtain ⟨hi11, hM⟩ := hM
      refine sk_ist S hK hw kdn_192 (kd_in kdn_192) (by rw [lnn_192]; exact hi11) hr_v2 (okX12_mark (146, .iastore, 1) (List.mem_of_getElem? (i := 73) rfl)) (fun H locs hw => ?_)
      refine lv_aload_n hx hb (okX12_mark (147, .aload_n 0, 1) (List.mem_of_getElem? (i := 74) rfl)) rfl (lv_at hl 0 rfl) ?_
      refine sk_getr (b := 193) S hK hw kdn_158 (kd_in kdn_158) (C := RX12) (T := TX12) (N := 53) rfl hI12 45 ⟨by decide, rfl, by decide, rfl⟩ rfl (k' := 45) rfl rfl (by decide +kernel) hL7 (okX12_mark (148, .getfield 119, 3) (List.mem_of_getElem? (i := 75) rfl)) ?_
      refine lv_aload_n hx hb (okX12_mark (151, .aload_n 0, 1) (List.mem_of_getElem? (i := 76) rfl)) rfl (lv_at hl 0 rfl) ?_
      have hr12 := hw.1.2.2 158 48
      refine sk_geti S hK hw kdn_158 (kd_in kdn_158) (C := RX12) (T := TX12) (N := 53) rfl hI12 48 ⟨by decide, rfl, by decide, rfl⟩ rfl (k' := 48) rfl hL4 (okX12_mark (152, .getfield 305, 3) (List.mem_of_getElem? (i := 77) rfl)) ?_
      refine lv_iload_n hx hb (okX12_mark (155, .iload_n 3, 1) (List.mem_of_getElem? (i := 78) rfl)) rfl (lv_at hl 3 rfl) ?_
      obtain ⟨hi13, hM⟩ := hM
      refine sk_ist S hK hw kdn_193 (kd_in kdn_193) (by rw [lnn_193]; exact hi13) hr_v3 (okX12_mark (156, .iastore, 1) (List.mem_of_getElem? (i := 79) rfl)) (fun H locs hw => ?_)
      refine lv_aload_n hx hb (okX12_mark (157, .aload_n 0, 1) (List.mem_of_getElem? (i := 80) rfl)) rfl (lv_at hl 0 rfl) ?_
      refine sk_getr (b := 194) S hK hw kdn_158 (kd_in kdn_158) (C := RX12) (T := TX12) (N := 53) rfl hI12 46 ⟨by decide, rfl, by decide, rfl⟩ rfl (k' := 46) rfl rfl (by decide +kernel) hL8 (okX12_mark (158, .getfield 122, 3) (List.mem_of_getElem? (i := 81) rfl)) ?_
      refine lv_aload_n hx hb (okX12_mark (161, .aload_n 0, 1) (List.mem_of_getElem? (i := 82) rfl)) rfl (lv_at hl 0 rfl) ?_
      have hr14 := hw.1.2.2 158 48
      refine sk_geti S hK hw kdn_158 (kd_in kdn_158) (C := RX12) (T := TX12) (N := 53) rfl hI12 48 ⟨by decide, rfl, by decide, rfl⟩ rfl (k' := 48) rfl hL4 (okX12_mark (162, .getfield 305, 3) (List.mem_of_getElem? (i := 83) rfl)) ?_
      refine lv_iload hx hb (okX12_mark (165, .iload 4, 2) (List.mem_of_getElem? (i := 84) rfl)) (lv_at hl 4 rfl) ?_
      obtain ⟨hi15, hM⟩ := hM
      refine sk_ist S hK hw kdn_194 (kd_in kdn_194) (by rw [lnn_194]; exact hi15) hr_v4 (okX12_mark (167, .iastore, 1) (List.mem_of_getElem? (i := 85) rfl)) (fun H locs hw => ?_)
      refine lv_aload_n hx hb (okX12_mark (168, .aload_n 0, 1) (List.mem_of_getElem? (i := 86) rfl)) rfl (lv_at hl 0 rfl) ?_
      refine sk_getr (b := 195) S hK hw kdn_158 (kd_in kdn_158) (C := RX12) (T := TX12) (N := 53) rfl hI12 47 ⟨by decide, rfl, by decide, rfl⟩ rfl (k' := 47) rfl rfl (by decide +kernel) hL9 (okX12_mark (169, .getfield 125, 3) (List.mem_of_getElem? (i := 87) rfl)) ?_
      refine lv_aload_n hx hb (okX12_mark (172, .aload_n 0, 1) (List.mem_of_getElem? (i := 88) rfl)) rfl (lv_at hl 0 rfl) ?_
      have hr16 := hw.1.2.2 158 48
      refine sk_geti S hK hw kdn_158 (kd_in kdn_158) (C := RX12) (T := TX12) (N := 53) rfl hI12 48 ⟨by decide, rfl, by decide, rfl⟩ rfl (k' := 48) rfl hL4 (okX12_mark (173, .getfield 305, 3) (List.mem_of_getElem? (i := 89) rfl)) ?_
      refine lv_iload hx hb (okX12_mark (176, .iload 5, 2) (List.mem_of_getElem? (i := 90) rfl)) (lv_at hl 5 rfl) ?_
      obtain ⟨hi17, hM⟩ := hM
      refine sk_ist S hK hw kdn_195 (kd_in kdn_195) (by rw [lnn_195]; exact hi17) hr_v5 (okX12_mark (178, .iastore, 1) (List.mem_of_getElem? (i := 91) rfl)) (fun H locs hw => ?_)
      refine lv_aload_n hx hb (okX12_mark (179, .aload_n 0, 1) (List.mem_of_getElem? (i := 92) rfl)) rfl (lv_at hl 0 rfl) ?_
      refine lv_dup hx hb (okX12_mark (180, .dup, 1) (List.mem_of_getElem? (i := 93) rfl)) rfl ?_
      have hr18 := hw.1.2.2 158 48
      refine sk_geti S hK hw kdn_158 (kd_in kdn_158) (C := RX12) (T := TX12) (N := 53) rfl hI12 48 ⟨by decide, rfl, by decide, rfl⟩ rfl (k' := 48) rfl hL4 (okX12_mark (181, .getfield 305, 3) (List.mem_of_getElem? (i := 94) rfl)) ?_
      refine lv_iconst (v := iI 1) hx hb (okX12_mark (184, .iconst 1, 1) (List.mem_of_getElem? (i := 95) rfl)) rfl ?_
      refine sk_iadd hx hb (okX12_mark (185, .iadd, 1) (List.mem_of_getElem? (i := 96) rfl)) ?_
      obtain ⟨hr19, hM⟩ := hM
      refine sk_put S hK hw kdn_158 (kd_in kdn_158) (C := RX12) (T := TX12) (N := 53) rfl hI12 tyX12 tyX12_ok nmX12 48 ⟨by decide, rfl, by decide, rfl⟩ rfl rfl (k' := 48) rfl hr19 ⟨rfl, rfl⟩ hL4 (okX12_mark (186, .putfield 305, 3) (List.mem_of_getElem? (i := 97) rfl)) (fun H locs hw => ?_)
      refine lv_aload_n hx hb (okX12_mark (189, .aload_n 0, 1) (List.mem_of_getElem? (i := 98) rfl)) rfl (lv_at hl 0 rfl) ?_
      have hr20 := hw.1.2.2 158 48
      refine sk_geti S hK hw kdn_158 (kd_in kdn_158) (C := RX12) (T := TX12) (N := 53) rfl hI12 48 ⟨by decide, rfl, by decide, rfl⟩ rfl (k' := 48) rfl hL4 (okX12_mark (190, .getfield 305, 3) (List.mem_of_getElem? (i := 99) rfl)) ?_
      exact sk_iret hx hb hr0 hlocks hK hw hr20 hM (okX12_mark (193, .ireturn, 1) (List.mem_of_getElem? (i := 100) rfl))
    · have hM := hM.2 c121
      refine lv_bipush (v := iI (-4)) hx hb (okX12_mark (124, .bipush (-4), 2) (List.mem_of_getElem? (i := 60) rfl)) (by decide +kernel) ?_
      exact sk_iret hx hb hr0 hlocks hK hw (by decide) hM (okX12_mark (126, .ireturn, 1) (List.mem_of_getElem? (i := 61) rfl))
  have hJ_74 : ∀ (v1 v2 v3 v4 v5 v6 : Int) (I : sk_S), rI v1 → rI v2 → rI v3 → rI v4 → rI v5 → rI v6 → L_Mo_mark_74 v1 v2 v3 v4 v5 Q v6 I → ∀ (H : Heap) (locs : List Loc) (ls : Array Slot), sk_W G 198 sk_t I s H locs → lv_has ls 7 [(0, .ref (sk_ad G 158)), (1, .int (iI v1)), (2, .int (iI v2)), (3, .int (iI v3)), (4, .int (iI v4)), (5, .int (iI v5)), (6, .int (iI v6))] → W p l e (headSpec wsX12_mark rmX12_mark).room s m ([.ref (sk_ad G 158), .int (iI p1), .int (iI p2), .int (iI p3), .int (iI p4), .int (iI p5)].toArray) below meth c H locs 0 0 (MQ below (sk_Qi G 198 sk_t Q) ([.ref (sk_ad G 158), .int (iI p1), .int (iI p2), .int (iI p3), .int (iI p4), .int (iI p5)].toArray) s 0 0 (sk_A G)) (F0 m 74 ls []) := by
    intro v1 v2 v3 v4 v5 v6 I hr_v1 hr_v2 hr_v3 hr_v4 hr_v5 hr_v6 hM H locs ls hw hl
    unfold L_Mo_mark_74 at hM
    obtain ⟨X_74, hX_74⟩ : ∃ X : Int → sk_S → Prop, ∀ (v6 : Int) (I : sk_S), X v6 I ↔ (rI v6 → ∀ (H : Heap) (locs : List Loc) (ls : Array Slot), sk_W G 198 sk_t I s H locs → lv_has ls 7 [(0, .ref (sk_ad G 158)), (1, .int (iI v1)), (2, .int (iI v2)), (3, .int (iI v3)), (4, .int (iI v4)), (5, .int (iI v5)), (6, .int (iI v6))] → W p l e (headSpec wsX12_mark rmX12_mark).room s m ([.ref (sk_ad G 158), .int (iI p1), .int (iI p2), .int (iI p3), .int (iI p4), .int (iI p5)].toArray) below meth c H locs 0 0 (MQ below (sk_Qi G 198 sk_t Q) ([.ref (sk_ad G 158), .int (iI p1), .int (iI p2), .int (iI p3), .int (iI p4), .int (iI p5)].toArray) s 0 0 (sk_A G)) (F0 m 74 ls [])) := ⟨_, fun _ _ => Iff.rfl⟩
    have hJ_108 : ∀ (v6 : Int) (I : sk_S), rI v6 → J_Mo_mark_108 v1 v2 v3 v4 v5 v6 Q X_74 I → ∀ (H : Heap) (locs : List Loc) (ls : Array Slot), sk_W G 198 sk_t I s H locs → lv_has ls 7 [(0, .ref (sk_ad G 158)), (1, .int (iI v1)), (2, .int (iI v2)), (3, .int (iI v3)), (4, .int (iI v4)), (5, .int (iI v5)), (6, .int (iI v6))] → W p l e (headSpec wsX12_mark rmX12_mark).room s m ([.ref (sk_ad G 158), .int (iI p1), .int (iI p2), .int (iI p3), .int (iI p4), .int (iI p5)].toArray) below meth c H locs 0 0 (MQ below (sk_Qi G 198 sk_t Q) ([.ref (sk_ad G 158), .int (iI p1), .int (iI p2), .int (iI p3), .int (iI p4), .int (iI p5)].toArray) s 0 0 (sk_A G)) (F0 m 108 ls []) := by
      intro v6 I hr_v6 hM H locs ls hw hl
      unfold J_Mo_mark_108 at hM
      obtain ⟨hr6, hM⟩ := hM
      obtain ⟨v6_108, ev6_108⟩ : ∃ y : Int, y = v6 + 1 := ⟨_, rfl⟩
      have hM := hM v6_108 ev6_108
      have hr_v6_108 : rI v6_108 := by rw [ev6_108]; exact hr6
      refine lv_iinc (v := iI v6_108) (lv' := [(6, .int (iI v6_108)), (0, .ref (sk_ad G 158)), (1, .int (iI v1)), (2, .int (iI v2)), (3, .int (iI v3)), (4, .int (iI v4)), (5, .int (iI v5))]) hx hb (okX12_mark (108, .iinc 6 1, 3) (List.mem_of_getElem? (i := 54) rfl)) hl (k := 6) rfl (by rw [ev6_108]; exact iI_add _ _) (by decide) rfl (fun ls hl => ?_)
      refine lv_goto (tgt := 74) hx hb (okX12_mark (111, .goto (-37), 3) (List.mem_of_getElem? (i := 55) rfl)) (by decide) ?_
      exact (hX_74 v6_108 I).1 hM hr_v6_108 H locs ls hw (lv_sub hl [1, 2, 3, 4, 5, 6, 0] rfl)
    refine (hX_74 v6 I).1 (hM X_74 (fun v6 I hM => (hX_74 v6 I).2 (fun hr_v6 H locs ls hw hl => ?_))) hr_v6 H locs ls hw hl
    refine lv_iload hx hb (okX12_mark (74, .iload 6, 2) (List.mem_of_getElem? (i := 36) rfl)) (lv_at hl 6 rfl) ?_
    refine lv_aload_n hx hb (okX12_mark (76, .aload_n 0, 1) (List.mem_of_getElem? (i := 37) rfl)) rfl (lv_at hl 0 rfl) ?_
    have hr1 := hw.1.2.2 158 48
    refine sk_geti S hK hw kdn_158 (kd_in kdn_158) (C := RX12) (T := TX12) (N := 53) rfl hI12 48 ⟨by decide, rfl, by decide, rfl⟩ rfl (k' := 48) rfl hL4 (okX12_mark (77, .getfield 305, 3) (List.mem_of_getElem? (i := 38) rfl)) ?_
    refine sk_icmp_ge (tgt := 114) hx hb hr_v6 hr1 (okX12_mark (80, .if_icmp .ge 34, 3) (List.mem_of_getElem? (i := 39) rfl)) (by decide) (fun c80 => ?_) (fun c80 => ?_)
    · have hM := hM.1 c80
      exact hJ_114 v1 v2 v3 v4 v5 I hr_v1 hr_v2 hr_v3 hr_v4 hr_v5 hM H locs ls hw (lv_sub hl [0, 1, 2, 3, 4, 5] rfl)
    · have hM := hM.2 c80
      refine lv_aload_n hx hb (okX12_mark (83, .aload_n 0, 1) (List.mem_of_getElem? (i := 40) rfl)) rfl (lv_at hl 0 rfl) ?_
      refine sk_getr (b := 191) S hK hw kdn_158 (kd_in kdn_158) (C := RX12) (T := TX12) (N := 53) rfl hI12 43 ⟨by decide, rfl, by decide, rfl⟩ rfl (k' := 43) rfl rfl (by decide +kernel) hL5 (okX12_mark (84, .getfield 113, 3) (List.mem_of_getElem? (i := 41) rfl)) ?_
      refine lv_iload hx hb (okX12_mark (87, .iload 6, 2) (List.mem_of_getElem? (i := 42) rfl)) (lv_at hl 6 rfl) ?_
      obtain ⟨hi2, hM⟩ := hM
      have hr3 := hw.1.2.2 191 v6
      refine sk_ild S hK hw kdn_191 (kd_in kdn_191) (by rw [lnn_191]; exact hi2) (okX12_mark (89, .iaload, 1) (List.mem_of_getElem? (i := 43) rfl)) ?_
      refine lv_iload_n hx hb (okX12_mark (90, .iload_n 1, 1) (List.mem_of_getElem? (i := 44) rfl)) rfl (lv_at hl 1 rfl) ?_
      refine sk_icmp_ne (tgt := 108) hx hb hr3 hr_v1 (okX12_mark (91, .if_icmp .ne 17, 3) (List.mem_of_getElem? (i := 45) rfl)) (by decide) (fun c91 => ?_) (fun c91 => ?_)
      · have hM := hM.1 c91
        exact hJ_108 v6 I hr_v6 hM H locs ls hw (lv_sub hl [0, 1, 2, 3, 4, 5, 6] rfl)
      · have hM := hM.2 c91
        refine lv_aload_n hx hb (okX12_mark (94, .aload_n 0, 1) (List.mem_of_getElem? (i := 46) rfl)) rfl (lv_at hl 0 rfl) ?_
        refine sk_getr (b := 192) S hK hw kdn_158 (kd_in kdn_158) (C := RX12) (T := TX12) (N := 53) rfl hI12 44 ⟨by decide, rfl, by decide, rfl⟩ rfl (k' := 44) rfl rfl (by decide +kernel) hL6 (okX12_mark (95, .getfield 116, 3) (List.mem_of_getElem? (i := 47) rfl)) ?_
        refine lv_iload hx hb (okX12_mark (98, .iload 6, 2) (List.mem_of_getElem? (i := 48) rfl)) (lv_at hl 6 rfl) ?_
        obtain ⟨hi4, hM⟩ := hM
        have hr5 := hw.1.2.2 192 v6
        refine sk_ild S hK hw kdn_192 (kd_in kdn_192) (by rw [lnn_192]; exact hi4) (okX12_mark (100, .iaload, 1) (List.mem_of_getElem? (i := 49) rfl)) ?_
        refine lv_iload_n hx hb (okX12_mark (101, .iload_n 2, 1) (List.mem_of_getElem? (i := 50) rfl)) rfl (lv_at hl 2 rfl) ?_
        refine sk_icmp_lt (tgt := 108) hx hb hr5 hr_v2 (okX12_mark (102, .if_icmp .lt 6, 3) (List.mem_of_getElem? (i := 51) rfl)) (by decide) (fun c102 => ?_) (fun c102 => ?_)
        · have hM := hM.1 c102
          exact hJ_108 v6 I hr_v6 hM H locs ls hw (lv_sub hl [0, 1, 2, 3, 4, 5, 6] rfl)
        · have hM := hM.2 c102
          refine lv_bipush (v := iI (-2)) hx hb (okX12_mark (105, .bipush (-2), 2) (List.mem_of_getElem? (i := 52) rfl)) (by decide +kernel) ?_
          exact sk_iret hx hb hr0 hlocks hK hw (by decide) hM (okX12_mark (107, .ireturn, 1) (List.mem_of_getElem? (i := 53) rfl))
  unfold M_Mo_mark at hM
  intro H locs hw
  refine lv_iload_n hx hb (okX12_mark (0, .iload_n 1, 1) (List.mem_of_getElem? (i := 0) rfl)) rfl (lv_at hl 1 rfl) ?_
  refine sk_i2l hx hb hr_p1 (okX12_mark (1, .i2l, 1) (List.mem_of_getElem? (i := 1) rfl)) ?_
  refine lv_lconst (v := lI 0) hx hb (okX12_mark (2, .lconst 0, 1) (List.mem_of_getElem? (i := 2) rfl)) (by decide +kernel) ?_
  refine lv_ldc2 (v := lI 9) hx hb hown (by rw [show lI 9 = (9 : Int64) from by decide +kernel]; exact hL0) (okX12_mark (3, .ldc2_w 263, 3) (List.mem_of_getElem? (i := 3) rfl)) ?_
  refine sk_ci (sk_runS (As := [.long (lI p1), .long (lI 0), .long (lI 9)]) (rest := []) S (c_Mo_isIn l G ⟨Int.le_trans (by decide) (hr_p1).1, Int.lt_trans (hr_p1).2 (by decide)⟩ (by decide) (by decide) hM) sk_blind gX12_mark_X12_isIn rfl hdX12_isIn ⟨⟨rfl, rfl⟩, Nat.le_of_ble_eq_true rfl, Nat.le_of_ble_eq_true rfl⟩ (sk_pre hK hw) rfl hl.1 rfl (Nat.le_of_ble_eq_true rfl) (okX12_mark (6, .invokestatic 150, 3) (List.mem_of_getElem? (i := 4) rfl)) ⟨Nat.zero_le _, Nat.zero_le _⟩) hw (fun r_6 I_6 H locs hr_r_6 hM hw => ?_)
  obtain ⟨hb_r_6, hM⟩ := hM
  refine sk_if_ne (tgt := 14) hx hb hr_r_6 (okX12_mark (9, .ifCond .ne 5, 3) (List.mem_of_getElem? (i := 5) rfl)) (by decide) (fun c9 => ?_) (fun c9 => ?_)
  · have hM := hM.1 c9
    refine lv_iload_n hx hb (okX12_mark (14, .iload_n 2, 1) (List.mem_of_getElem? (i := 8) rfl)) rfl (lv_at hl 2 rfl) ?_
    refine sk_i2l hx hb hr_p2 (okX12_mark (15, .i2l, 1) (List.mem_of_getElem? (i := 9) rfl)) ?_
    refine lv_lconst (v := lI 0) hx hb (okX12_mark (16, .lconst 0, 1) (List.mem_of_getElem? (i := 10) rfl)) (by decide +kernel) ?_
    refine lv_ldc2 (v := lI 999) hx hb hown (by rw [show lI 999 = (999 : Int64) from by decide +kernel]; exact hL1) (okX12_mark (17, .ldc2_w 303, 3) (List.mem_of_getElem? (i := 11) rfl)) ?_
    refine sk_ci (sk_runS (As := [.long (lI p2), .long (lI 0), .long (lI 999)]) (rest := []) S (c_Mo_isIn l G ⟨Int.le_trans (by decide) (hr_p2).1, Int.lt_trans (hr_p2).2 (by decide)⟩ (by decide) (by decide) hM) sk_blind gX12_mark_X12_isIn rfl hdX12_isIn ⟨⟨rfl, rfl⟩, Nat.le_of_ble_eq_true rfl, Nat.le_of_ble_eq_true rfl⟩ (sk_pre hK hw) rfl hl.1 rfl (Nat.le_of_ble_eq_true rfl) (okX12_mark (20, .invokestatic 150, 3) (List.mem_of_getElem? (i := 12) rfl)) ⟨Nat.zero_le _, Nat.zero_le _⟩) hw (fun r_20 I_20 H locs hr_r_20 hM hw => ?_)
    obtain ⟨hb_r_20, hM⟩ := hM
    refine sk_if_eq (tgt := 68) hx hb hr_r_20 (okX12_mark (23, .ifCond .eq 45, 3) (List.mem_of_getElem? (i := 13) rfl)) (by decide) (fun c23 => ?_) (fun c23 => ?_)
    · have hM := hM.1 c23
      refine lv_bipush (v := iI (-2)) hx hb (okX12_mark (68, .bipush (-2), 2) (List.mem_of_getElem? (i := 32) rfl)) (by decide +kernel) ?_
      exact sk_iret hx hb hr0 hlocks hK hw (by decide) hM (okX12_mark (70, .ireturn, 1) (List.mem_of_getElem? (i := 33) rfl))
    · have hM := hM.2 c23
      refine lv_iload_n hx hb (okX12_mark (26, .iload_n 3, 1) (List.mem_of_getElem? (i := 14) rfl)) rfl (lv_at hl 3 rfl) ?_
      refine sk_i2l hx hb hr_p3 (okX12_mark (27, .i2l, 1) (List.mem_of_getElem? (i := 15) rfl)) ?_
      refine lv_ldc2 (v := lI (-200)) hx hb hown (by rw [show lI (-200) = (-200 : Int64) from by decide +kernel]; exact hL2) (okX12_mark (28, .ldc2_w 146, 3) (List.mem_of_getElem? (i := 16) rfl)) ?_
      refine lv_ldc2 (v := lI 200) hx hb hown (by rw [show lI 200 = (200 : Int64) from by decide +kernel]; exact hL3) (okX12_mark (31, .ldc2_w 148, 3) (List.mem_of_getElem? (i := 17) rfl)) ?_
      refine sk_ci (sk_runS (As := [.long (lI p3), .long (lI ((-200))), .long (lI 200)]) (rest := []) S (c_Mo_isIn l G ⟨Int.le_trans (by decide) (hr_p3).1, Int.lt_trans (hr_p3).2 (by decide)⟩ (by decide) (by decide) hM) sk_blind gX12_mark_X12_isIn rfl hdX12_isIn ⟨⟨rfl, rfl⟩, Nat.le_of_ble_eq_true rfl, Nat.le_of_ble_eq_true rfl⟩ (sk_pre hK hw) rfl hl.1 rfl (Nat.le_of_ble_eq_true rfl) (okX12_mark (34, .invokestatic 150, 3) (List.mem_of_getElem? (i := 18) rfl)) ⟨Nat.zero_le _, Nat.zero_le _⟩) hw (fun r_34 I_34 H locs hr_r_34 hM hw => ?_)
      obtain ⟨hb_r_34, hM⟩ := hM
      refine sk_if_eq (tgt := 68) hx hb hr_r_34 (okX12_mark (37, .ifCond .eq 31, 3) (List.mem_of_getElem? (i := 19) rfl)) (by decide) (fun c37 => ?_) (fun c37 => ?_)
      · have hM := hM.1 c37
        refine lv_bipush (v := iI (-2)) hx hb (okX12_mark (68, .bipush (-2), 2) (List.mem_of_getElem? (i := 32) rfl)) (by decide +kernel) ?_
        exact sk_iret hx hb hr0 hlocks hK hw (by decide) hM (okX12_mark (70, .ireturn, 1) (List.mem_of_getElem? (i := 33) rfl))
      · have hM := hM.2 c37
        refine lv_iload hx hb (okX12_mark (40, .iload 4, 2) (List.mem_of_getElem? (i := 20) rfl)) (lv_at hl 4 rfl) ?_
        refine sk_i2l hx hb hr_p4 (okX12_mark (42, .i2l, 1) (List.mem_of_getElem? (i := 21) rfl)) ?_
        refine lv_ldc2 (v := lI (-200)) hx hb hown (by rw [show lI (-200) = (-200 : Int64) from by decide +kernel]; exact hL2) (okX12_mark (43, .ldc2_w 146, 3) (List.mem_of_getElem? (i := 22) rfl)) ?_
        refine lv_ldc2 (v := lI 200) hx hb hown (by rw [show lI 200 = (200 : Int64) from by decide +kernel]; exact hL3) (okX12_mark (46, .ldc2_w 148, 3) (List.mem_of_getElem? (i := 23) rfl)) ?_
        refine sk_ci (sk_runS (As := [.long (lI p4), .long (lI ((-200))), .long (lI 200)]) (rest := []) S (c_Mo_isIn l G ⟨Int.le_trans (by decide) (hr_p4).1, Int.lt_trans (hr_p4).2 (by decide)⟩ (by decide) (by decide) hM) sk_blind gX12_mark_X12_isIn rfl hdX12_isIn ⟨⟨rfl, rfl⟩, Nat.le_of_ble_eq_true rfl, Nat.le_of_ble_eq_true rfl⟩ (sk_pre hK hw) rfl hl.1 rfl (Nat.le_of_ble_eq_true rfl) (okX12_mark (49, .invokestatic 150, 3) (List.mem_of_getElem? (i := 24) rfl)) ⟨Nat.zero_le _, Nat.zero_le _⟩) hw (fun r_49 I_49 H locs hr_r_49 hM hw => ?_)
        obtain ⟨hb_r_49, hM⟩ := hM
        refine sk_if_eq (tgt := 68) hx hb hr_r_49 (okX12_mark (52, .ifCond .eq 16, 3) (List.mem_of_getElem? (i := 25) rfl)) (by decide) (fun c52 => ?_) (fun c52 => ?_)
        · have hM := hM.1 c52
          refine lv_bipush (v := iI (-2)) hx hb (okX12_mark (68, .bipush (-2), 2) (List.mem_of_getElem? (i := 32) rfl)) (by decide +kernel) ?_
          exact sk_iret hx hb hr0 hlocks hK hw (by decide) hM (okX12_mark (70, .ireturn, 1) (List.mem_of_getElem? (i := 33) rfl))
        · have hM := hM.2 c52
          refine lv_iload hx hb (okX12_mark (55, .iload 5, 2) (List.mem_of_getElem? (i := 26) rfl)) (lv_at hl 5 rfl) ?_
          refine sk_i2l hx hb hr_p5 (okX12_mark (57, .i2l, 1) (List.mem_of_getElem? (i := 27) rfl)) ?_
          refine lv_lconst (v := lI 0) hx hb (okX12_mark (58, .lconst 0, 1) (List.mem_of_getElem? (i := 28) rfl)) (by decide +kernel) ?_
          refine lv_ldc2 (v := lI 200) hx hb hown (by rw [show lI 200 = (200 : Int64) from by decide +kernel]; exact hL3) (okX12_mark (59, .ldc2_w 148, 3) (List.mem_of_getElem? (i := 29) rfl)) ?_
          refine sk_ci (sk_runS (As := [.long (lI p5), .long (lI 0), .long (lI 200)]) (rest := []) S (c_Mo_isIn l G ⟨Int.le_trans (by decide) (hr_p5).1, Int.lt_trans (hr_p5).2 (by decide)⟩ (by decide) (by decide) hM) sk_blind gX12_mark_X12_isIn rfl hdX12_isIn ⟨⟨rfl, rfl⟩, Nat.le_of_ble_eq_true rfl, Nat.le_of_ble_eq_true rfl⟩ (sk_pre hK hw) rfl hl.1 rfl (Nat.le_of_ble_eq_true rfl) (okX12_mark (62, .invokestatic 150, 3) (List.mem_of_getElem? (i := 30) rfl)) ⟨Nat.zero_le _, Nat.zero_le _⟩) hw (fun r_62 I_62 H locs hr_r_62 hM hw => ?_)
          obtain ⟨hb_r_62, hM⟩ := hM
          refine sk_if_ne (tgt := 71) hx hb hr_r_62 (okX12_mark (65, .ifCond .ne 6, 3) (List.mem_of_getElem? (i := 31) rfl)) (by decide) (fun c65 => ?_) (fun c65 => ?_)
          · have hM := hM.1 c65
            refine lv_iconst (v := iI 0) hx hb (okX12_mark (71, .iconst 0, 1) (List.mem_of_getElem? (i := 34) rfl)) rfl ?_
            refine lv_istore (lv' := [(6, .int (iI 0)), (0, .ref (sk_ad G 158)), (1, .int (iI p1)), (2, .int (iI p2)), (3, .int (iI p3)), (4, .int (iI p4)), (5, .int (iI p5))]) hx hb (okX12_mark (72, .istore 6, 2) (List.mem_of_getElem? (i := 35) rfl)) hl (by decide) rfl (fun ls hl => ?_)
            exact hJ_74 p1 p2 p3 p4 p5 0 I_62 hr_p1 hr_p2 hr_p3 hr_p4 hr_p5 (by decide) hM H locs ls hw (lv_sub hl [1, 2, 3, 4, 5, 6, 0] rfl)
          · have hM := hM.2 c65
            refine lv_bipush (v := iI (-2)) hx hb (okX12_mark (68, .bipush (-2), 2) (List.mem_of_getElem? (i := 32) rfl)) (by decide +kernel) ?_
            exact sk_iret hx hb hr0 hlocks hK hw (by decide) hM (okX12_mark (70, .ireturn, 1) (List.mem_of_getElem? (i := 33) rfl))
  · have hM := hM.2 c9
    refine lv_iconst (v := iI (-1)) hx hb (okX12_mark (12, .iconst (-1), 1) (List.mem_of_getElem? (i := 6) rfl)) rfl ?_
    exact sk_iret hx hb hr0 hlocks hK hw (by decide) hM (okX12_mark (13, .ireturn, 1) (List.mem_of_getElem? (i := 7) rfl))
