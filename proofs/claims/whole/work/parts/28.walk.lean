def rmX12_areNear : Room := { frames := 1, cells := 0, slots := 0, locals := 79 }
set_option maxHeartbeats 4000000 in
set_option maxRecDepth 100000 in
theorem c_Mo_areNear (l : Launch) (G : sk_G) {p1 p2 : Int} (hr_p1 : rI p1) (hr_p2 : rI p2) {Q : Int → sk_S → Prop} {I : sk_S} (hM : M_Mo_areNear p1 p2 Q I) : Met l yX12_areNear wsX12_areNear rmX12_areNear (va_Pc [.ref (sk_ad G 158), .int (iI p1), .int (iI p2)] (sk_U G 198 sk_t I)) (sk_Qz G 198 sk_t Q) 0 0 (sk_A G) := by
  refine Met.ofW (cc := cX12_areNear) (maxL := 9) (ret := (some .boolean)) (by decide) rfl ?_
  intro p e s m args below meth c s₁ B hml hv
  obtain ⟨rfl, hU, hK⟩ := hv
  have hx := B.exec
  have hb := B.bytes
  have hr0 := B.returns
  have hts := atoms_spec (ws := wsX12_areNear) B.pre
  have hown : s.vm.findClass RX12 = some m.cls := findClass_of_methodNamed B.named
  have hlocks := B.notSynchronized
  have S : CallFix p m c cX12_areNear 9 s ([.ref (sk_ad G 158), .int (iI p1), .int (iI p2)].toArray) wsX12_areNear RX12 := ⟨hx, hb, hml, hown, hts⟩
  have hL0 := hts (.fieldLink RX12 128 "SkyLightsModel" "now" "[I") (by decide +kernel)
  have hL1 := hts (.fieldLink RX12 119 "SkyLightsModel" "markX" "[I") (by decide +kernel)
  have hL2 := hts (.fieldLink RX12 122 "SkyLightsModel" "markY" "[I") (by decide +kernel)
  have hL3 := hts (.fieldLink RX12 125 "SkyLightsModel" "markZ" "[I") (by decide +kernel)
  have hL4 := hts (.fieldLink RX12 131 "SkyLightsModel" "then" "[I") (by decide +kernel)
  have hL5 := hts (.fieldLink RX12 34 "SkyLightsModel" "gap" "I") (by decide +kernel)
  have hI12 : ∀ w ∈ u_ws RX12 TX12 53, w ∈ wsX12_areNear := by decide +kernel
  have hw : sk_W G 198 sk_t I s s.heap [] := ⟨hU, va_S.rf⟩
  have hl := lv_entry ([.ref (sk_ad G 158), .int (iI p1), .int (iI p2)]) (n := 9) (Nat.le_of_ble_eq_true rfl)
  rw [lg_entry_eq]
  generalize (lg_sl ([.ref (sk_ad G 158), .int (iI p1), .int (iI p2)]) ++ List.replicate (9 - (lg_sl ([.ref (sk_ad G 158), .int (iI p1), .int (iI p2)])).length) Slot.unset).toArray = ls at hl ⊢
  have hl : lv_has ls 9 [(0, .ref (sk_ad G 158)), (1, .int (iI p1)), (2, .int (iI p2))] := hl
  suffices hgo : ∀ (H : Heap) (locs : List Loc), sk_W G 198 sk_t I s H locs → W p l e (headSpec wsX12_areNear rmX12_areNear).room s m ([.ref (sk_ad G 158), .int (iI p1), .int (iI p2)].toArray) below meth c H locs 0 0 (MQ below (sk_Qz G 198 sk_t Q) ([.ref (sk_ad G 158), .int (iI p1), .int (iI p2)].toArray) s 0 0 (sk_A G)) (F0 m 0 ls []) from hgo _ _ hw
  have hJ_112 : ∀ (v3 v4 v5 : Int) (I : sk_S), rI v3 → rI v4 → rI v5 → J_Mo_areNear_112 v3 v4 v5 Q I → ∀ (H : Heap) (locs : List Loc) (ls : Array Slot), sk_W G 198 sk_t I s H locs → lv_has ls 9 [(0, .ref (sk_ad G 158)), (3, .int (iI v3)), (4, .int (iI v4)), (5, .int (iI v5))] → W p l e (headSpec wsX12_areNear rmX12_areNear).room s m ([.ref (sk_ad G 158), .int (iI p1), .int (iI p2)].toArray) below meth c H locs 0 0 (MQ below (sk_Qz G 198 sk_t Q) ([.ref (sk_ad G 158), .int (iI p1), .int (iI p2)].toArray) s 0 0 (sk_A G)) (F0 m 112 ls []) := by
    intro v3 v4 v5 I hr_v3 hr_v4 hr_v5 hM H locs ls hw hl
    unfold J_Mo_areNear_112 at hM
    refine lv_iload_n hx hb (okX12_areNear (112, .iload_n 3, 1) (List.mem_of_getElem? (i := 70) rfl)) rfl (lv_at hl 1 rfl) ?_
    refine sk_i2l hx hb hr_v3 (okX12_areNear (113, .i2l, 1) (List.mem_of_getElem? (i := 71) rfl)) ?_
    refine lv_iload hx hb (okX12_areNear (114, .iload 4, 2) (List.mem_of_getElem? (i := 72) rfl)) (lv_at hl 2 rfl) ?_
    refine sk_i2l hx hb hr_v4 (okX12_areNear (116, .i2l, 1) (List.mem_of_getElem? (i := 73) rfl)) ?_
    refine lv_iload hx hb (okX12_areNear (117, .iload 5, 2) (List.mem_of_getElem? (i := 74) rfl)) (lv_at hl 3 rfl) ?_
    refine sk_i2l hx hb hr_v5 (okX12_areNear (119, .i2l, 1) (List.mem_of_getElem? (i := 75) rfl)) ?_
    refine lv_lconst (v := lI 0) hx hb (okX12_areNear (120, .lconst 0, 1) (List.mem_of_getElem? (i := 76) rfl)) (by decide +kernel) ?_
    refine lv_lconst (v := lI 0) hx hb (okX12_areNear (121, .lconst 0, 1) (List.mem_of_getElem? (i := 77) rfl)) (by decide +kernel) ?_
    refine lv_lconst (v := lI 0) hx hb (okX12_areNear (122, .lconst 0, 1) (List.mem_of_getElem? (i := 78) rfl)) (by decide +kernel) ?_
    refine lv_lconst (v := lI 1) hx hb (okX12_areNear (123, .lconst 1, 1) (List.mem_of_getElem? (i := 79) rfl)) (by decide +kernel) ?_
    refine lv_aload_n hx hb (okX12_areNear (124, .aload_n 0, 1) (List.mem_of_getElem? (i := 80) rfl)) rfl (lv_at hl 0 rfl) ?_
    have hr64 := hw.1.2.2 158 10
    refine sk_geti S hK hw kdn_158 (kd_in kdn_158) (C := RX12) (T := TX12) (N := 53) rfl hI12 10 ⟨by decide, rfl, by decide, rfl⟩ rfl (k' := 10) rfl hL5 (okX12_areNear (125, .getfield 34, 3) (List.mem_of_getElem? (i := 81) rfl)) ?_
    refine sk_i2l hx hb hr64 (okX12_areNear (128, .i2l, 1) (List.mem_of_getElem? (i := 82) rfl)) ?_
    refine sk_ci (sk_runS (As := [.long (lI v3), .long (lI v4), .long (lI v5), .long (lI 0), .long (lI 0), .long (lI 0), .long (lI 1), .long (lI (I 158 10))]) (rest := []) S (c_Mo_isNear l G ⟨Int.le_trans (by decide) (hr_v3).1, Int.lt_trans (hr_v3).2 (by decide)⟩ ⟨Int.le_trans (by decide) (hr_v4).1, Int.lt_trans (hr_v4).2 (by decide)⟩ ⟨Int.le_trans (by decide) (hr_v5).1, Int.lt_trans (hr_v5).2 (by decide)⟩ (by decide) (by decide) (by decide) (by decide) ⟨Int.le_trans (by decide) (hr64).1, Int.lt_trans (hr64).2 (by decide)⟩ hM) sk_blind gX12_areNear_X12_isNear rfl hdX12_isNear ⟨⟨rfl, rfl⟩, Nat.le_of_ble_eq_true rfl, Nat.le_of_ble_eq_true rfl⟩ (sk_pre hK hw) rfl hl.1 rfl (Nat.le_of_ble_eq_true rfl) (okX12_areNear (129, .invokestatic 232, 3) (List.mem_of_getElem? (i := 83) rfl)) ⟨Nat.zero_le _, Nat.zero_le _⟩) hw (fun r_129 I_129 H locs hr_r_129 hM hw => ?_)
    obtain ⟨hb_r_129, hM⟩ := hM
    exact sk_zret hx hb hr0 hlocks hK hw hb_r_129 hM (okX12_areNear (132, .ireturn, 1) (List.mem_of_getElem? (i := 84) rfl))
  unfold M_Mo_areNear at hM
  intro H locs hw
  refine lv_aload_n hx hb (okX12_areNear (0, .aload_n 0, 1) (List.mem_of_getElem? (i := 0) rfl)) rfl (lv_at hl 0 rfl) ?_
  refine sk_getr (b := 196) S hK hw kdn_158 (kd_in kdn_158) (C := RX12) (T := TX12) (N := 53) rfl hI12 51 ⟨by decide, rfl, by decide, rfl⟩ rfl (k' := 51) rfl rfl (by decide +kernel) hL0 (okX12_areNear (1, .getfield 128, 3) (List.mem_of_getElem? (i := 1) rfl)) ?_
  refine lv_iload_n hx hb (okX12_areNear (4, .iload_n 1, 1) (List.mem_of_getElem? (i := 2) rfl)) rfl (lv_at hl 1 rfl) ?_
  obtain ⟨hi1, hM⟩ := hM
  have hr2 := hw.1.2.2 196 p1
  refine sk_ild S hK hw kdn_196 (kd_in kdn_196) (by rw [lnn_196]; exact hi1) (okX12_areNear (5, .iaload, 1) (List.mem_of_getElem? (i := 3) rfl)) ?_
  refine sk_if_lt (tgt := 18) hx hb hr2 (okX12_areNear (6, .ifCond .lt 12, 3) (List.mem_of_getElem? (i := 4) rfl)) (by decide) (fun c6 => ?_) (fun c6 => ?_)
  · have hM := hM.1 c6
    refine lv_iconst (v := iI 0) hx hb (okX12_areNear (18, .iconst 0, 1) (List.mem_of_getElem? (i := 10) rfl)) rfl ?_
    exact sk_zret hx hb hr0 hlocks hK hw (Or.inl rfl) hM (okX12_areNear (19, .ireturn, 1) (List.mem_of_getElem? (i := 11) rfl))
  · have hM := hM.2 c6
    refine lv_aload_n hx hb (okX12_areNear (9, .aload_n 0, 1) (List.mem_of_getElem? (i := 5) rfl)) rfl (lv_at hl 0 rfl) ?_
    refine sk_getr (b := 196) S hK hw kdn_158 (kd_in kdn_158) (C := RX12) (T := TX12) (N := 53) rfl hI12 51 ⟨by decide, rfl, by decide, rfl⟩ rfl (k' := 51) rfl rfl (by decide +kernel) hL0 (okX12_areNear (10, .getfield 128, 3) (List.mem_of_getElem? (i := 6) rfl)) ?_
    refine lv_iload_n hx hb (okX12_areNear (13, .iload_n 2, 1) (List.mem_of_getElem? (i := 7) rfl)) rfl (lv_at hl 2 rfl) ?_
    obtain ⟨hi3, hM⟩ := hM
    have hr4 := hw.1.2.2 196 p2
    refine sk_ild S hK hw kdn_196 (kd_in kdn_196) (by rw [lnn_196]; exact hi3) (okX12_areNear (14, .iaload, 1) (List.mem_of_getElem? (i := 8) rfl)) ?_
    refine sk_if_ge (tgt := 20) hx hb hr4 (okX12_areNear (15, .ifCond .ge 5, 3) (List.mem_of_getElem? (i := 9) rfl)) (by decide) (fun c15 => ?_) (fun c15 => ?_)
    · have hM := hM.1 c15
      refine lv_aload_n hx hb (okX12_areNear (20, .aload_n 0, 1) (List.mem_of_getElem? (i := 12) rfl)) rfl (lv_at hl 0 rfl) ?_
      refine sk_getr (b := 193) S hK hw kdn_158 (kd_in kdn_158) (C := RX12) (T := TX12) (N := 53) rfl hI12 45 ⟨by decide, rfl, by decide, rfl⟩ rfl (k' := 45) rfl rfl (by decide +kernel) hL1 (okX12_areNear (21, .getfield 119, 3) (List.mem_of_getElem? (i := 13) rfl)) ?_
      refine lv_aload_n hx hb (okX12_areNear (24, .aload_n 0, 1) (List.mem_of_getElem? (i := 14) rfl)) rfl (lv_at hl 0 rfl) ?_
      refine sk_getr (b := 196) S hK hw kdn_158 (kd_in kdn_158) (C := RX12) (T := TX12) (N := 53) rfl hI12 51 ⟨by decide, rfl, by decide, rfl⟩ rfl (k' := 51) rfl rfl (by decide +kernel) hL0 (okX12_areNear (25, .getfield 128, 3) (List.mem_of_getElem? (i := 15) rfl)) ?_
      refine lv_iload_n hx hb (okX12_areNear (28, .iload_n 1, 1) (List.mem_of_getElem? (i := 16) rfl)) rfl (lv_at hl 1 rfl) ?_
      obtain ⟨hi5, hM⟩ := hM
      have hr6 := hw.1.2.2 196 p1
      refine sk_ild S hK hw kdn_196 (kd_in kdn_196) (by rw [lnn_196]; exact hi5) (okX12_areNear (29, .iaload, 1) (List.mem_of_getElem? (i := 17) rfl)) ?_
      obtain ⟨hi7, hM⟩ := hM
      have hr8 := hw.1.2.2 193 (I 196 p1)
      refine sk_ild S hK hw kdn_193 (kd_in kdn_193) (by rw [lnn_193]; exact hi7) (okX12_areNear (30, .iaload, 1) (List.mem_of_getElem? (i := 18) rfl)) ?_
      refine lv_aload_n hx hb (okX12_areNear (31, .aload_n 0, 1) (List.mem_of_getElem? (i := 19) rfl)) rfl (lv_at hl 0 rfl) ?_
      refine sk_getr (b := 193) S hK hw kdn_158 (kd_in kdn_158) (C := RX12) (T := TX12) (N := 53) rfl hI12 45 ⟨by decide, rfl, by decide, rfl⟩ rfl (k' := 45) rfl rfl (by decide +kernel) hL1 (okX12_areNear (32, .getfield 119, 3) (List.mem_of_getElem? (i := 20) rfl)) ?_
      refine lv_aload_n hx hb (okX12_areNear (35, .aload_n 0, 1) (List.mem_of_getElem? (i := 21) rfl)) rfl (lv_at hl 0 rfl) ?_
      refine sk_getr (b := 196) S hK hw kdn_158 (kd_in kdn_158) (C := RX12) (T := TX12) (N := 53) rfl hI12 51 ⟨by decide, rfl, by decide, rfl⟩ rfl (k' := 51) rfl rfl (by decide +kernel) hL0 (okX12_areNear (36, .getfield 128, 3) (List.mem_of_getElem? (i := 22) rfl)) ?_
      refine lv_iload_n hx hb (okX12_areNear (39, .iload_n 2, 1) (List.mem_of_getElem? (i := 23) rfl)) rfl (lv_at hl 2 rfl) ?_
      obtain ⟨hi9, hM⟩ := hM
      have hr10 := hw.1.2.2 196 p2
      refine sk_ild S hK hw kdn_196 (kd_in kdn_196) (by rw [lnn_196]; exact hi9) (okX12_areNear (40, .iaload, 1) (List.mem_of_getElem? (i := 24) rfl)) ?_
      obtain ⟨hi11, hM⟩ := hM
      have hr12 := hw.1.2.2 193 (I 196 p2)
      refine sk_ild S hK hw kdn_193 (kd_in kdn_193) (by rw [lnn_193]; exact hi11) (okX12_areNear (41, .iaload, 1) (List.mem_of_getElem? (i := 25) rfl)) ?_
      refine sk_isub hx hb (okX12_areNear (42, .isub, 1) (List.mem_of_getElem? (i := 26) rfl)) ?_
      obtain ⟨hr13, hM⟩ := hM
      refine sk_nm (fun v3_43 ev3_43 => ?_)
      have hM := hM v3_43 ev3_43
      have hr_v3_43 : rI v3_43 := by rw [ev3_43]; exact hr13
      refine lv_istore_n (lv' := [(3, .int (iI v3_43)), (0, .ref (sk_ad G 158)), (1, .int (iI p1)), (2, .int (iI p2))]) hx hb (okX12_areNear (43, .istore_n 3, 1) (List.mem_of_getElem? (i := 27) rfl)) rfl hl (by decide) rfl (fun ls hl => ?_)
      refine lv_aload_n hx hb (okX12_areNear (44, .aload_n 0, 1) (List.mem_of_getElem? (i := 28) rfl)) rfl (lv_at hl 1 rfl) ?_
      refine sk_getr (b := 194) S hK hw kdn_158 (kd_in kdn_158) (C := RX12) (T := TX12) (N := 53) rfl hI12 46 ⟨by decide, rfl, by decide, rfl⟩ rfl (k' := 46) rfl rfl (by decide +kernel) hL2 (okX12_areNear (45, .getfield 122, 3) (List.mem_of_getElem? (i := 29) rfl)) ?_
      refine lv_aload_n hx hb (okX12_areNear (48, .aload_n 0, 1) (List.mem_of_getElem? (i := 30) rfl)) rfl (lv_at hl 1 rfl) ?_
      refine sk_getr (b := 196) S hK hw kdn_158 (kd_in kdn_158) (C := RX12) (T := TX12) (N := 53) rfl hI12 51 ⟨by decide, rfl, by decide, rfl⟩ rfl (k' := 51) rfl rfl (by decide +kernel) hL0 (okX12_areNear (49, .getfield 128, 3) (List.mem_of_getElem? (i := 31) rfl)) ?_
      refine lv_iload_n hx hb (okX12_areNear (52, .iload_n 1, 1) (List.mem_of_getElem? (i := 32) rfl)) rfl (lv_at hl 2 rfl) ?_
      obtain ⟨hi14, hM⟩ := hM
      have hr15 := hw.1.2.2 196 p1
      refine sk_ild S hK hw kdn_196 (kd_in kdn_196) (by rw [lnn_196]; exact hi14) (okX12_areNear (53, .iaload, 1) (List.mem_of_getElem? (i := 33) rfl)) ?_
      obtain ⟨hi16, hM⟩ := hM
      have hr17 := hw.1.2.2 194 (I 196 p1)
      refine sk_ild S hK hw kdn_194 (kd_in kdn_194) (by rw [lnn_194]; exact hi16) (okX12_areNear (54, .iaload, 1) (List.mem_of_getElem? (i := 34) rfl)) ?_
      refine lv_aload_n hx hb (okX12_areNear (55, .aload_n 0, 1) (List.mem_of_getElem? (i := 35) rfl)) rfl (lv_at hl 1 rfl) ?_
      refine sk_getr (b := 194) S hK hw kdn_158 (kd_in kdn_158) (C := RX12) (T := TX12) (N := 53) rfl hI12 46 ⟨by decide, rfl, by decide, rfl⟩ rfl (k' := 46) rfl rfl (by decide +kernel) hL2 (okX12_areNear (56, .getfield 122, 3) (List.mem_of_getElem? (i := 36) rfl)) ?_
      refine lv_aload_n hx hb (okX12_areNear (59, .aload_n 0, 1) (List.mem_of_getElem? (i := 37) rfl)) rfl (lv_at hl 1 rfl) ?_
      refine sk_getr (b := 196) S hK hw kdn_158 (kd_in kdn_158) (C := RX12) (T := TX12) (N := 53) rfl hI12 51 ⟨by decide, rfl, by decide, rfl⟩ rfl (k' := 51) rfl rfl (by decide +kernel) hL0 (okX12_areNear (60, .getfield 128, 3) (List.mem_of_getElem? (i := 38) rfl)) ?_
      refine lv_iload_n hx hb (okX12_areNear (63, .iload_n 2, 1) (List.mem_of_getElem? (i := 39) rfl)) rfl (lv_at hl 3 rfl) ?_
      obtain ⟨hi18, hM⟩ := hM
      have hr19 := hw.1.2.2 196 p2
      refine sk_ild S hK hw kdn_196 (kd_in kdn_196) (by rw [lnn_196]; exact hi18) (okX12_areNear (64, .iaload, 1) (List.mem_of_getElem? (i := 40) rfl)) ?_
      obtain ⟨hi20, hM⟩ := hM
      have hr21 := hw.1.2.2 194 (I 196 p2)
      refine sk_ild S hK hw kdn_194 (kd_in kdn_194) (by rw [lnn_194]; exact hi20) (okX12_areNear (65, .iaload, 1) (List.mem_of_getElem? (i := 41) rfl)) ?_
      refine sk_isub hx hb (okX12_areNear (66, .isub, 1) (List.mem_of_getElem? (i := 42) rfl)) ?_
      obtain ⟨hr22, hM⟩ := hM
      refine sk_nm (fun v4_67 ev4_67 => ?_)
      have hM := hM v4_67 ev4_67
      have hr_v4_67 : rI v4_67 := by rw [ev4_67]; exact hr22
      refine lv_istore (lv' := [(4, .int (iI v4_67)), (3, .int (iI v3_43)), (0, .ref (sk_ad G 158)), (1, .int (iI p1)), (2, .int (iI p2))]) hx hb (okX12_areNear (67, .istore 4, 2) (List.mem_of_getElem? (i := 43) rfl)) hl (by decide) rfl (fun ls hl => ?_)
      refine lv_aload_n hx hb (okX12_areNear (69, .aload_n 0, 1) (List.mem_of_getElem? (i := 44) rfl)) rfl (lv_at hl 2 rfl) ?_
      refine sk_getr (b := 195) S hK hw kdn_158 (kd_in kdn_158) (C := RX12) (T := TX12) (N := 53) rfl hI12 47 ⟨by decide, rfl, by decide, rfl⟩ rfl (k' := 47) rfl rfl (by decide +kernel) hL3 (okX12_areNear (70, .getfield 125, 3) (List.mem_of_getElem? (i := 45) rfl)) ?_
      refine lv_aload_n hx hb (okX12_areNear (73, .aload_n 0, 1) (List.mem_of_getElem? (i := 46) rfl)) rfl (lv_at hl 2 rfl) ?_
      refine sk_getr (b := 196) S hK hw kdn_158 (kd_in kdn_158) (C := RX12) (T := TX12) (N := 53) rfl hI12 51 ⟨by decide, rfl, by decide, rfl⟩ rfl (k' := 51) rfl rfl (by decide +kernel) hL0 (okX12_areNear (74, .getfield 128, 3) (List.mem_of_getElem? (i := 47) rfl)) ?_
      refine lv_iload_n hx hb (okX12_areNear (77, .iload_n 1, 1) (List.mem_of_getElem? (i := 48) rfl)) rfl (lv_at hl 3 rfl) ?_
      obtain ⟨hi23, hM⟩ := hM
      have hr24 := hw.1.2.2 196 p1
      refine sk_ild S hK hw kdn_196 (kd_in kdn_196) (by rw [lnn_196]; exact hi23) (okX12_areNear (78, .iaload, 1) (List.mem_of_getElem? (i := 49) rfl)) ?_
      obtain ⟨hi25, hM⟩ := hM
      have hr26 := hw.1.2.2 195 (I 196 p1)
      refine sk_ild S hK hw kdn_195 (kd_in kdn_195) (by rw [lnn_195]; exact hi25) (okX12_areNear (79, .iaload, 1) (List.mem_of_getElem? (i := 50) rfl)) ?_
      refine lv_aload_n hx hb (okX12_areNear (80, .aload_n 0, 1) (List.mem_of_getElem? (i := 51) rfl)) rfl (lv_at hl 2 rfl) ?_
      refine sk_getr (b := 195) S hK hw kdn_158 (kd_in kdn_158) (C := RX12) (T := TX12) (N := 53) rfl hI12 47 ⟨by decide, rfl, by decide, rfl⟩ rfl (k' := 47) rfl rfl (by decide +kernel) hL3 (okX12_areNear (81, .getfield 125, 3) (List.mem_of_getElem? (i := 52) rfl)) ?_
      refine lv_aload_n hx hb (okX12_areNear (84, .aload_n 0, 1) (List.mem_of_getElem? (i := 53) rfl)) rfl (lv_at hl 2 rfl) ?_
      refine sk_getr (b := 196) S hK hw kdn_158 (kd_in kdn_158) (C := RX12) (T := TX12) (N := 53) rfl hI12 51 ⟨by decide, rfl, by decide, rfl⟩ rfl (k' := 51) rfl rfl (by decide +kernel) hL0 (okX12_areNear (85, .getfield 128, 3) (List.mem_of_getElem? (i := 54) rfl)) ?_
      refine lv_iload_n hx hb (okX12_areNear (88, .iload_n 2, 1) (List.mem_of_getElem? (i := 55) rfl)) rfl (lv_at hl 4 rfl) ?_
      obtain ⟨hi27, hM⟩ := hM
      have hr28 := hw.1.2.2 196 p2
      refine sk_ild S hK hw kdn_196 (kd_in kdn_196) (by rw [lnn_196]; exact hi27) (okX12_areNear (89, .iaload, 1) (List.mem_of_getElem? (i := 56) rfl)) ?_
      obtain ⟨hi29, hM⟩ := hM
      have hr30 := hw.1.2.2 195 (I 196 p2)
      refine sk_ild S hK hw kdn_195 (kd_in kdn_195) (by rw [lnn_195]; exact hi29) (okX12_areNear (90, .iaload, 1) (List.mem_of_getElem? (i := 57) rfl)) ?_
      refine sk_isub hx hb (okX12_areNear (91, .isub, 1) (List.mem_of_getElem? (i := 58) rfl)) ?_
      obtain ⟨hr31, hM⟩ := hM
      refine sk_nm (fun v5_92 ev5_92 => ?_)
      have hM := hM v5_92 ev5_92
      have hr_v5_92 : rI v5_92 := by rw [ev5_92]; exact hr31
      refine lv_istore (lv' := [(5, .int (iI v5_92)), (4, .int (iI v4_67)), (3, .int (iI v3_43)), (0, .ref (sk_ad G 158)), (1, .int (iI p1)), (2, .int (iI p2))]) hx hb (okX12_areNear (92, .istore 5, 2) (List.mem_of_getElem? (i := 59) rfl)) hl (by decide) rfl (fun ls hl => ?_)
      refine lv_aload_n hx hb (okX12_areNear (94, .aload_n 0, 1) (List.mem_of_getElem? (i := 60) rfl)) rfl (lv_at hl 3 rfl) ?_
      refine sk_getr (b := 197) S hK hw kdn_158 (kd_in kdn_158) (C := RX12) (T := TX12) (N := 53) rfl hI12 52 ⟨by decide, rfl, by decide, rfl⟩ rfl (k' := 52) rfl rfl (by decide +kernel) hL4 (okX12_areNear (95, .getfield 131, 3) (List.mem_of_getElem? (i := 61) rfl)) ?_
      refine lv_iload_n hx hb (okX12_areNear (98, .iload_n 1, 1) (List.mem_of_getElem? (i := 62) rfl)) rfl (lv_at hl 4 rfl) ?_
      obtain ⟨hi32, hM⟩ := hM
      have hr33 := hw.1.2.2 197 p1
      refine sk_ild S hK hw kdn_197 (kd_in kdn_197) (by rw [lnn_197]; exact hi32) (okX12_areNear (99, .iaload, 1) (List.mem_of_getElem? (i := 63) rfl)) ?_
      refine sk_if_lt (tgt := 112) hx hb hr33 (okX12_areNear (100, .ifCond .lt 12, 3) (List.mem_of_getElem? (i := 64) rfl)) (by decide) (fun c100 => ?_) (fun c100 => ?_)
      · have hM := hM.1 c100
        exact hJ_112 v3_43 v4_67 v5_92 I hr_v3_43 hr_v4_67 hr_v5_92 hM H locs ls hw (lv_sub hl [3, 2, 1, 0] rfl)
      · have hM := hM.2 c100
        refine lv_aload_n hx hb (okX12_areNear (103, .aload_n 0, 1) (List.mem_of_getElem? (i := 65) rfl)) rfl (lv_at hl 3 rfl) ?_
        refine sk_getr (b := 197) S hK hw kdn_158 (kd_in kdn_158) (C := RX12) (T := TX12) (N := 53) rfl hI12 52 ⟨by decide, rfl, by decide, rfl⟩ rfl (k' := 52) rfl rfl (by decide +kernel) hL4 (okX12_areNear (104, .getfield 131, 3) (List.mem_of_getElem? (i := 66) rfl)) ?_
        refine lv_iload_n hx hb (okX12_areNear (107, .iload_n 2, 1) (List.mem_of_getElem? (i := 67) rfl)) rfl (lv_at hl 5 rfl) ?_
        obtain ⟨hi34, hM⟩ := hM
        have hr35 := hw.1.2.2 197 p2
        refine sk_ild S hK hw kdn_197 (kd_in kdn_197) (by rw [lnn_197]; exact hi34) (okX12_areNear (108, .iaload, 1) (List.mem_of_getElem? (i := 68) rfl)) ?_
        refine sk_if_ge (tgt := 133) hx hb hr35 (okX12_areNear (109, .ifCond .ge 24, 3) (List.mem_of_getElem? (i := 69) rfl)) (by decide) (fun c109 => ?_) (fun c109 => ?_)
        · have hM := hM.1 c109
          refine lv_aload_n hx hb (okX12_areNear (133, .aload_n 0, 1) (List.mem_of_getElem? (i := 85) rfl)) rfl (lv_at hl 3 rfl) ?_
          refine sk_getr (b := 193) S hK hw kdn_158 (kd_in kdn_158) (C := RX12) (T := TX12) (N := 53) rfl hI12 45 ⟨by decide, rfl, by decide, rfl⟩ rfl (k' := 45) rfl rfl (by decide +kernel) hL1 (okX12_areNear (134, .getfield 119, 3) (List.mem_of_getElem? (i := 86) rfl)) ?_
          refine lv_aload_n hx hb (okX12_areNear (137, .aload_n 0, 1) (List.mem_of_getElem? (i := 87) rfl)) rfl (lv_at hl 3 rfl) ?_
          refine sk_getr (b := 197) S hK hw kdn_158 (kd_in kdn_158) (C := RX12) (T := TX12) (N := 53) rfl hI12 52 ⟨by decide, rfl, by decide, rfl⟩ rfl (k' := 52) rfl rfl (by decide +kernel) hL4 (okX12_areNear (138, .getfield 131, 3) (List.mem_of_getElem? (i := 88) rfl)) ?_
          refine lv_iload_n hx hb (okX12_areNear (141, .iload_n 1, 1) (List.mem_of_getElem? (i := 89) rfl)) rfl (lv_at hl 4 rfl) ?_
          obtain ⟨hi36, hM⟩ := hM
          have hr37 := hw.1.2.2 197 p1
          refine sk_ild S hK hw kdn_197 (kd_in kdn_197) (by rw [lnn_197]; exact hi36) (okX12_areNear (142, .iaload, 1) (List.mem_of_getElem? (i := 90) rfl)) ?_
          obtain ⟨hi38, hM⟩ := hM
          have hr39 := hw.1.2.2 193 (I 197 p1)
          refine sk_ild S hK hw kdn_193 (kd_in kdn_193) (by rw [lnn_193]; exact hi38) (okX12_areNear (143, .iaload, 1) (List.mem_of_getElem? (i := 91) rfl)) ?_
          refine lv_aload_n hx hb (okX12_areNear (144, .aload_n 0, 1) (List.mem_of_getElem? (i := 92) rfl)) rfl (lv_at hl 3 rfl) ?_
          refine sk_getr (b := 193) S hK hw kdn_158 (kd_in kdn_158) (C := RX12) (T := TX12) (N := 53) rfl hI12 45 ⟨by decide, rfl, by decide, rfl⟩ rfl (k' := 45) rfl rfl (by decide +kernel) hL1 (okX12_areNear (145, .getfield 119, 3) (List.mem_of_getElem? (i := 93) rfl)) ?_
          refine lv_aload_n hx hb (okX12_areNear (148, .aload_n 0, 1) (List.mem_of_getElem? (i := 94) rfl)) rfl (lv_at hl 3 rfl) ?_
          refine sk_getr (b := 197) S hK hw kdn_158 (kd_in kdn_158) (C := RX12) (T := TX12) (N := 53) rfl hI12 52 ⟨by decide, rfl, by decide, rfl⟩ rfl (k' := 52) rfl rfl (by decide +kernel) hL4 (okX12_areNear (149, .getfield 131, 3) (List.mem_of_getElem? (i := 95) rfl)) ?_
          refine lv_iload_n hx hb (okX12_areNear (152, .iload_n 2, 1) (List.mem_of_getElem? (i := 96) rfl)) rfl (lv_at hl 5 rfl) ?_
          obtain ⟨hi40, hM⟩ := hM
          have hr41 := hw.1.2.2 197 p2
          refine sk_ild S hK hw kdn_197 (kd_in kdn_197) (by rw [lnn_197]; exact hi40) (okX12_areNear (153, .iaload, 1) (List.mem_of_getElem? (i := 97) rfl)) ?_
          obtain ⟨hi42, hM⟩ := hM
          have hr43 := hw.1.2.2 193 (I 197 p2)
          refine sk_ild S hK hw kdn_193 (kd_in kdn_193) (by rw [lnn_193]; exact hi42) (okX12_areNear (154, .iaload, 1) (List.mem_of_getElem? (i := 98) rfl)) ?_
          refine sk_isub hx hb (okX12_areNear (155, .isub, 1) (List.mem_of_getElem? (i := 99) rfl)) ?_
          refine lv_iload_n hx hb (okX12_areNear (156, .iload_n 3, 1) (List.mem_of_getElem? (i := 100) rfl)) rfl (lv_at hl 2 rfl) ?_
          refine sk_isub hx hb (okX12_areNear (157, .isub, 1) (List.mem_of_getElem? (i := 101) rfl)) ?_
          obtain ⟨hr44, hM⟩ := hM
          refine sk_nm (fun v6_158 ev6_158 => ?_)
          have hM := hM v6_158 ev6_158
          have hr_v6_158 : rI v6_158 := by rw [ev6_158]; exact hr44
          refine lv_istore (lv' := [(6, .int (iI v6_158)), (5, .int (iI v5_92)), (4, .int (iI v4_67)), (3, .int (iI v3_43)), (0, .ref (sk_ad G 158)), (1, .int (iI p1)), (2, .int (iI p2))]) hx hb (okX12_areNear (158, .istore 6, 2) (List.mem_of_getElem? (i := 102) rfl)) hl (by decide) rfl (fun ls hl => ?_)
          refine lv_aload_n hx hb (okX12_areNear (160, .aload_n 0, 1) (List.mem_of_getElem? (i := 103) rfl)) rfl (lv_at hl 4 rfl) ?_
          refine sk_getr (b := 194) S hK hw kdn_158 (kd_in kdn_158) (C := RX12) (T := TX12) (N := 53) rfl hI12 46 ⟨by decide, rfl, by decide, rfl⟩ rfl (k' := 46) rfl rfl (by decide +kernel) hL2 (okX12_areNear (161, .getfield 122, 3) (List.mem_of_getElem? (i := 104) rfl)) ?_
          refine lv_aload_n hx hb (okX12_areNear (164, .aload_n 0, 1) (List.mem_of_getElem? (i := 105) rfl)) rfl (lv_at hl 4 rfl) ?_
          refine sk_getr (b := 197) S hK hw kdn_158 (kd_in kdn_158) (C := RX12) (T := TX12) (N := 53) rfl hI12 52 ⟨by decide, rfl, by decide, rfl⟩ rfl (k' := 52) rfl rfl (by decide +kernel) hL4 (okX12_areNear (165, .getfield 131, 3) (List.mem_of_getElem? (i := 106) rfl)) ?_
          refine lv_iload_n hx hb (okX12_areNear (168, .iload_n 1, 1) (List.mem_of_getElem? (i := 107) rfl)) rfl (lv_at hl 5 rfl) ?_
          obtain ⟨hi45, hM⟩ := hM
          have hr46 := hw.1.2.2 197 p1
          refine sk_ild S hK hw kdn_197 (kd_in kdn_197) (by rw [lnn_197]; exact hi45) (okX12_areNear (169, .iaload, 1) (List.mem_of_getElem? (i := 108) rfl)) ?_
          obtain ⟨hi47, hM⟩ := hM
          have hr48 := hw.1.2.2 194 (I 197 p1)
          refine sk_ild S hK hw kdn_194 (kd_in kdn_194) (by rw [lnn_194]; exact hi47) (okX12_areNear (170, .iaload, 1) (List.mem_of_getElem? (i := 109) rfl)) ?_
          refine lv_aload_n hx hb (okX12_areNear (171, .aload_n 0, 1) (List.mem_of_getElem? (i := 110) rfl)) rfl (lv_at hl 4 rfl) ?_
          refine sk_getr (b := 194) S hK hw kdn_158 (kd_in kdn_158) (C := RX12) (T := TX12) (N := 53) rfl hI12 46 ⟨by decide, rfl, by decide, rfl⟩ rfl (k' := 46) rfl rfl (by decide +kernel) hL2 (okX12_areNear (172, .getfield 122, 3) (List.mem_of_getElem? (i := 111) rfl)) ?_
          refine lv_aload_n hx hb (okX12_areNear (175, .aload_n 0, 1) (List.mem_of_getElem? (i := 112) rfl)) rfl (lv_at hl 4 rfl) ?_
          refine sk_getr (b := 197) S hK hw kdn_158 (kd_in kdn_158) (C := RX12) (T := TX12) (N := 53) rfl hI12 52 ⟨by decide, rfl, by decide, rfl⟩ rfl (k' := 52) rfl rfl (by decide +kernel) hL4 (okX12_areNear (176, .getfield 131, 3) (List.mem_of_getElem? (i := 113) rfl)) ?_
          refine lv_iload_n hx hb (okX12_areNear (179, .iload_n 2, 1) (List.mem_of_getElem? (i := 114) rfl)) rfl (lv_at hl 6 rfl) ?_
          obtain ⟨hi49, hM⟩ := hM
          have hr50 := hw.1.2.2 197 p2
          refine sk_ild S hK hw kdn_197 (kd_in kdn_197) (by rw [lnn_197]; exact hi49) (okX12_areNear (180, .iaload, 1) (List.mem_of_getElem? (i := 115) rfl)) ?_
          obtain ⟨hi51, hM⟩ := hM
          have hr52 := hw.1.2.2 194 (I 197 p2)
          refine sk_ild S hK hw kdn_194 (kd_in kdn_194) (by rw [lnn_194]; exact hi51) (okX12_areNear (181, .iaload, 1) (List.mem_of_getElem? (i := 116) rfl)) ?_
          refine sk_isub hx hb (okX12_areNear (182, .isub, 1) (List.mem_of_getElem? (i := 117) rfl)) ?_
          refine lv_iload hx hb (okX12_areNear (183, .iload 4, 2) (List.mem_of_getElem? (i := 118) rfl)) (lv_at hl 2 rfl) ?_
          refine sk_isub hx hb (okX12_areNear (185, .isub, 1) (List.mem_of_getElem? (i := 119) rfl)) ?_
          obtain ⟨hr53, hM⟩ := hM
          refine sk_nm (fun v7_186 ev7_186 => ?_)
          have hM := hM v7_186 ev7_186
          have hr_v7_186 : rI v7_186 := by rw [ev7_186]; exact hr53
          refine lv_istore (lv' := [(7, .int (iI v7_186)), (6, .int (iI v6_158)), (5, .int (iI v5_92)), (4, .int (iI v4_67)), (3, .int (iI v3_43)), (0, .ref (sk_ad G 158)), (1, .int (iI p1)), (2, .int (iI p2))]) hx hb (okX12_areNear (186, .istore 7, 2) (List.mem_of_getElem? (i := 120) rfl)) hl (by decide) rfl (fun ls hl => ?_)
          refine lv_aload_n hx hb (okX12_areNear (188, .aload_n 0, 1) (List.mem_of_getElem? (i := 121) rfl)) rfl (lv_at hl 5 rfl) ?_
          refine sk_getr (b := 195) S hK hw kdn_158 (kd_in kdn_158) (C := RX12) (T := TX12) (N := 53) rfl hI12 47 ⟨by decide, rfl, by decide, rfl⟩ rfl (k' := 47) rfl rfl (by decide +kernel) hL3 (okX12_areNear (189, .getfield 125, 3) (List.mem_of_getElem? (i := 122) rfl)) ?_
          refine lv_aload_n hx hb (okX12_areNear (192, .aload_n 0, 1) (List.mem_of_getElem? (i := 123) rfl)) rfl (lv_at hl 5 rfl) ?_
          refine sk_getr (b := 197) S hK hw kdn_158 (kd_in kdn_158) (C := RX12) (T := TX12) (N := 53) rfl hI12 52 ⟨by decide, rfl, by decide, rfl⟩ rfl (k' := 52) rfl rfl (by decide +kernel) hL4 (okX12_areNear (193, .getfield 131, 3) (List.mem_of_getElem? (i := 124) rfl)) ?_
          refine lv_iload_n hx hb (okX12_areNear (196, .iload_n 1, 1) (List.mem_of_getElem? (i := 125) rfl)) rfl (lv_at hl 6 rfl) ?_
          obtain ⟨hi54, hM⟩ := hM
          have hr55 := hw.1.2.2 197 p1
          refine sk_ild S hK hw kdn_197 (kd_in kdn_197) (by rw [lnn_197]; exact hi54) (okX12_areNear (197, .iaload, 1) (List.mem_of_getElem? (i := 126) rfl)) ?_
          obtain ⟨hi56, hM⟩ := hM
          have hr57 := hw.1.2.2 195 (I 197 p1)
          refine sk_ild S hK hw kdn_195 (kd_in kdn_195) (by rw [lnn_195]; exact hi56) (okX12_areNear (198, .iaload, 1) (List.mem_of_getElem? (i := 127) rfl)) ?_
          refine lv_aload_n hx hb (okX12_areNear (199, .aload_n 0, 1) (List.mem_of_getElem? (i := 128) rfl)) rfl (lv_at hl 5 rfl) ?_
          refine sk_getr (b := 195) S hK hw kdn_158 (kd_in kdn_158) (C := RX12) (T := TX12) (N := 53) rfl hI12 47 ⟨by decide, rfl, by decide, rfl⟩ rfl (k' := 47) rfl rfl (by decide +kernel) hL3 (okX12_areNear (200, .getfield 125, 3) (List.mem_of_getElem? (i := 129) rfl)) ?_
          refine lv_aload_n hx hb (okX12_areNear (203, .aload_n 0, 1) (List.mem_of_getElem? (i := 130) rfl)) rfl (lv_at hl 5 rfl) ?_
          refine sk_getr (b := 197) S hK hw kdn_158 (kd_in kdn_158) (C := RX12) (T := TX12) (N := 53) rfl hI12 52 ⟨by decide, rfl, by decide, rfl⟩ rfl (k' := 52) rfl rfl (by decide +kernel) hL4 (okX12_areNear (204, .getfield 131, 3) (List.mem_of_getElem? (i := 131) rfl)) ?_
          refine lv_iload_n hx hb (okX12_areNear (207, .iload_n 2, 1) (List.mem_of_getElem? (i := 132) rfl)) rfl (lv_at hl 7 rfl) ?_
          obtain ⟨hi58, hM⟩ := hM
          have hr59 := hw.1.2.2 197 p2
          refine sk_ild S hK hw kdn_197 (kd_in kdn_197) (by rw [lnn_197]; exact hi58) (okX12_areNear (208, .iaload, 1) (List.mem_of_getElem? (i := 133) rfl)) ?_
          obtain ⟨hi60, hM⟩ := hM
          have hr61 := hw.1.2.2 195 (I 197 p2)
          refine sk_ild S hK hw kdn_195 (kd_in kdn_195) (by rw [lnn_195]; exact hi60) (okX12_areNear (209, .iaload, 1) (List.mem_of_getElem? (i := 134) rfl)) ?_
          refine sk_isub hx hb (okX12_areNear (210, .isub, 1) (List.mem_of_getElem? (i := 135) rfl)) ?_
          refine lv_iload hx hb (okX12_areNear (211, .iload 5, 2) (List.mem_of_getElem? (i := 136) rfl)) (lv_at hl 2 rfl) ?_
          refine sk_isub hx hb (okX12_areNear (213, .isub, 1) (List.mem_of_getElem? (i := 137) rfl)) ?_
          obtain ⟨hr62, hM⟩ := hM
          refine sk_nm (fun v8_214 ev8_214 => ?_)
          have hM := hM v8_214 ev8_214
          have hr_v8_214 : rI v8_214 := by rw [ev8_214]; exact hr62
          refine lv_istore (lv' := [(8, .int (iI v8_214)), (7, .int (iI v7_186)), (6, .int (iI v6_158)), (5, .int (iI v5_92)), (4, .int (iI v4_67)), (3, .int (iI v3_43)), (0, .ref (sk_ad G 158)), (1, .int (iI p1)), (2, .int (iI p2))]) hx hb (okX12_areNear (214, .istore 8, 2) (List.mem_of_getElem? (i := 138) rfl)) hl (by decide) rfl (fun ls hl => ?_)
          refine lv_iload_n hx hb (okX12_areNear (216, .iload_n 3, 1) (List.mem_of_getElem? (i := 139) rfl)) rfl (lv_at hl 5 rfl) ?_
          refine sk_i2l hx hb hr_v3_43 (okX12_areNear (217, .i2l, 1) (List.mem_of_getElem? (i := 140) rfl)) ?_
          refine lv_iload hx hb (okX12_areNear (218, .iload 4, 2) (List.mem_of_getElem? (i := 141) rfl)) (lv_at hl 4 rfl) ?_
          refine sk_i2l hx hb hr_v4_67 (okX12_areNear (220, .i2l, 1) (List.mem_of_getElem? (i := 142) rfl)) ?_
          refine lv_iload hx hb (okX12_areNear (221, .iload 5, 2) (List.mem_of_getElem? (i := 143) rfl)) (lv_at hl 3 rfl) ?_
          refine sk_i2l hx hb hr_v5_92 (okX12_areNear (223, .i2l, 1) (List.mem_of_getElem? (i := 144) rfl)) ?_
          refine lv_iload hx hb (okX12_areNear (224, .iload 6, 2) (List.mem_of_getElem? (i := 145) rfl)) (lv_at hl 2 rfl) ?_
          refine sk_i2l hx hb hr_v6_158 (okX12_areNear (226, .i2l, 1) (List.mem_of_getElem? (i := 146) rfl)) ?_
          refine lv_iload hx hb (okX12_areNear (227, .iload 7, 2) (List.mem_of_getElem? (i := 147) rfl)) (lv_at hl 1 rfl) ?_
          refine sk_i2l hx hb hr_v7_186 (okX12_areNear (229, .i2l, 1) (List.mem_of_getElem? (i := 148) rfl)) ?_
          refine lv_iload hx hb (okX12_areNear (230, .iload 8, 2) (List.mem_of_getElem? (i := 149) rfl)) (lv_at hl 0 rfl) ?_
          refine sk_i2l hx hb hr_v8_214 (okX12_areNear (232, .i2l, 1) (List.mem_of_getElem? (i := 150) rfl)) ?_
          refine lv_lconst (v := lI 1) hx hb (okX12_areNear (233, .lconst 1, 1) (List.mem_of_getElem? (i := 151) rfl)) (by decide +kernel) ?_
          refine lv_aload_n hx hb (okX12_areNear (234, .aload_n 0, 1) (List.mem_of_getElem? (i := 152) rfl)) rfl (lv_at hl 6 rfl) ?_
          have hr63 := hw.1.2.2 158 10
          refine sk_geti S hK hw kdn_158 (kd_in kdn_158) (C := RX12) (T := TX12) (N := 53) rfl hI12 10 ⟨by decide, rfl, by decide, rfl⟩ rfl (k' := 10) rfl hL5 (okX12_areNear (235, .getfield 34, 3) (List.mem_of_getElem? (i := 153) rfl)) ?_
          refine sk_i2l hx hb hr63 (okX12_areNear (238, .i2l, 1) (List.mem_of_getElem? (i := 154) rfl)) ?_
          refine sk_ci (sk_runS (As := [.long (lI v3_43), .long (lI v4_67), .long (lI v5_92), .long (lI v6_158), .long (lI v7_186), .long (lI v8_214), .long (lI 1), .long (lI (I 158 10))]) (rest := []) S (c_Mo_isNear l G ⟨Int.le_trans (by decide) (hr_v3_43).1, Int.lt_trans (hr_v3_43).2 (by decide)⟩ ⟨Int.le_trans (by decide) (hr_v4_67).1, Int.lt_trans (hr_v4_67).2 (by decide)⟩ ⟨Int.le_trans (by decide) (hr_v5_92).1, Int.lt_trans (hr_v5_92).2 (by decide)⟩ ⟨Int.le_trans (by decide) (hr_v6_158).1, Int.lt_trans (hr_v6_158).2 (by decide)⟩ ⟨Int.le_trans (by decide) (hr_v7_186).1, Int.lt_trans (hr_v7_186).2 (by decide)⟩ ⟨Int.le_trans (by decide) (hr_v8_214).1, Int.lt_trans (hr_v8_214).2 (by decide)⟩ (by decide) ⟨Int.le_trans (by decide) (hr63).1, Int.lt_trans (hr63).2 (by decide)⟩ hM) sk_blind gX12_areNear_X12_isNear rfl hdX12_isNear ⟨⟨rfl, rfl⟩, Nat.le_of_ble_eq_true rfl, Nat.le_of_ble_eq_true rfl⟩ (sk_pre hK hw) rfl hl.1 rfl (Nat.le_of_ble_eq_true rfl) (okX12_areNear (239, .invokestatic 232, 3) (List.mem_of_getElem? (i := 155) rfl)) ⟨Nat.zero_le _, Nat.zero_le _⟩) hw (fun r_239 I_239 H locs hr_r_239 hM hw => ?_)
          obtain ⟨hb_r_239, hM⟩ := hM
          exact sk_zret hx hb hr0 hlocks hK hw hb_r_239 hM (okX12_areNear (242, .ireturn, 1) (List.mem_of_getElem? (i := 156) rfl))
        · have hM := hM.2 c109
          exact hJ_112 v3_43 v4_67 v5_92 I hr_v3_43 hr_v4_67 hr_v5_92 hM H locs ls hw (lv_sub hl [3, 2, 1, 0] rfl)
    · have hM := hM.2 c15
      refine lv_iconst (v := iI 0) hx hb (okX12_areNear (18, .iconst 0, 1) (List.mem_of_getElem? (i := 10) rfl)) rfl ?_
      exact sk_zret hx hb hr0 hlocks hK hw (Or.inl rfl) hM (okX12_areNear (19, .ireturn, 1) (List.mem_of_getElem? (i := 11) rfl))
def rmX12_bits : Room := { frames := 0, cells := 0, slots := 0, locals := 0 }
set_option maxHeartbeats 4000000 in
set_option maxRecDepth 100000 in
theorem c_Mo_bits (l : Launch) (G : sk_G) {p0 : Int} (hr_p0 : rI p0) {Q : Int → sk_S → Prop} {I : sk_S} (hM : M_Mo_bits p0 Q I) : Met l yX12_bits wsX12_bits rmX12_bits (va_Pc [.int (iI p0)] (sk_U G 198 sk_t I)) (sk_Qi G 198 sk_t Q) 0 0 (sk_A G) := by
  refine Met.ofW (cc := cX12_bits) (maxL := 3) (ret := (some .int)) (by decide) rfl ?_
  intro p e s m args below meth c s₁ B hml hv
  obtain ⟨rfl, hU, hK⟩ := hv
  have hx := B.exec
  have hb := B.bytes
  have hr0 := B.returns
  have hts := atoms_spec (ws := wsX12_bits) B.pre
  have hown : s.vm.findClass RX12 = some m.cls := findClass_of_methodNamed B.named
  have hlocks := B.notSynchronized
  have S : CallFix p m c cX12_bits 3 s ([.int (iI p0)].toArray) wsX12_bits RX12 := ⟨hx, hb, hml, hown, hts⟩
  have hw : sk_W G 198 sk_t I s s.heap [] := ⟨hU, va_S.rf⟩
  have hl := lv_entry ([.int (iI p0)]) (n := 3) (Nat.le_of_ble_eq_true rfl)
  rw [lg_entry_eq]
  generalize (lg_sl ([.int (iI p0)]) ++ List.replicate (3 - (lg_sl ([.int (iI p0)])).length) Slot.unset).toArray = ls at hl ⊢
  have hl : lv_has ls 3 [(0, .int (iI p0))] := hl
  suffices hgo : ∀ (H : Heap) (locs : List Loc), sk_W G 198 sk_t I s H locs → W p l e (headSpec wsX12_bits rmX12_bits).room s m ([.int (iI p0)].toArray) below meth c H locs 0 0 (MQ below (sk_Qi G 198 sk_t Q) ([.int (iI p0)].toArray) s 0 0 (sk_A G)) (F0 m 0 ls []) from hgo _ _ hw
  have hJ_4 : ∀ (v0 v1 v2 : Int) (I : sk_S), rI v0 → rI v1 → rI v2 → L_Mo_bits_4 v0 Q v1 v2 I → ∀ (H : Heap) (locs : List Loc) (ls : Array Slot), sk_W G 198 sk_t I s H locs → lv_has ls 3 [(0, .int (iI v0)), (1, .int (iI v1)), (2, .int (iI v2))] → W p l e (headSpec wsX12_bits rmX12_bits).room s m ([.int (iI p0)].toArray) below meth c H locs 0 0 (MQ below (sk_Qi G 198 sk_t Q) ([.int (iI p0)].toArray) s 0 0 (sk_A G)) (F0 m 4 ls []) := by
    intro v0 v1 v2 I hr_v0 hr_v1 hr_v2 hM H locs ls hw hl
    unfold L_Mo_bits_4 at hM
    obtain ⟨X_4, hX_4⟩ : ∃ X : Int → Int → sk_S → Prop, ∀ (v1 v2 : Int) (I : sk_S), X v1 v2 I ↔ (rI v1 → rI v2 → ∀ (H : Heap) (locs : List Loc) (ls : Array Slot), sk_W G 198 sk_t I s H locs → lv_has ls 3 [(0, .int (iI v0)), (1, .int (iI v1)), (2, .int (iI v2))] → W p l e (headSpec wsX12_bits rmX12_bits).room s m ([.int (iI p0)].toArray) below meth c H locs 0 0 (MQ below (sk_Qi G 198 sk_t Q) ([.int (iI p0)].toArray) s 0 0 (sk_A G)) (F0 m 4 ls [])) := ⟨_, fun _ _ _ => Iff.rfl⟩
    refine (hX_4 v1 v2 I).1 (hM X_4 (fun v1 v2 I hM => (hX_4 v1 v2 I).2 (fun hr_v1 hr_v2 H locs ls hw hl => ?_))) hr_v1 hr_v2 H locs ls hw hl
    refine lv_iload_n hx hb (okX12_bits (4, .iload_n 2, 1) (List.mem_of_getElem? (i := 4) rfl)) rfl (lv_at hl 2 rfl) ?_
    refine lv_bipush (v := iI 10) hx hb (okX12_bits (5, .bipush 10, 2) (List.mem_of_getElem? (i := 5) rfl)) (by decide +kernel) ?_
    refine sk_icmp_ge (tgt := 24) hx hb hr_v2 (by decide) (okX12_bits (7, .if_icmp .ge 17, 3) (List.mem_of_getElem? (i := 6) rfl)) (by decide) (fun c7 => ?_) (fun c7 => ?_)
    · have hM := hM.1 c7
      refine lv_iload_n hx hb (okX12_bits (24, .iload_n 1, 1) (List.mem_of_getElem? (i := 17) rfl)) rfl (lv_at hl 1 rfl) ?_
      exact sk_iret hx hb hr0 hlocks hK hw hr_v1 hM (okX12_bits (25, .ireturn, 1) (List.mem_of_getElem? (i := 18) rfl))
    · have hM := hM.2 c7
      refine lv_iload_n hx hb (okX12_bits (10, .iload_n 1, 1) (List.mem_of_getElem? (i := 7) rfl)) rfl (lv_at hl 1 rfl) ?_
      refine lv_iload_n hx hb (okX12_bits (11, .iload_n 0, 1) (List.mem_of_getElem? (i := 8) rfl)) rfl (lv_at hl 0 rfl) ?_
      refine lv_iload_n hx hb (okX12_bits (12, .iload_n 2, 1) (List.mem_of_getElem? (i := 9) rfl)) rfl (lv_at hl 2 rfl) ?_
      refine sk_ishr hx hb (okX12_bits (13, .ishr, 1) (List.mem_of_getElem? (i := 10) rfl)) ?_
      refine lv_iconst (v := iI 1) hx hb (okX12_bits (14, .iconst 1, 1) (List.mem_of_getElem? (i := 11) rfl)) rfl ?_
      refine sk_iand hx hb (okX12_bits (15, .iand, 1) (List.mem_of_getElem? (i := 12) rfl)) ?_
      refine sk_iadd hx hb (okX12_bits (16, .iadd, 1) (List.mem_of_getElem? (i := 13) rfl)) ?_
      obtain ⟨hr1, hM⟩ := hM
      refine sk_nm (fun v1_17 ev1_17 => ?_)
      have hM := hM v1_17 ev1_17
      have hr_v1_17 : rI v1_17 := by rw [ev1_17]; exact hr1
      refine lv_istore_n (lv' := [(1, .int (iI v1_17)), (0, .int (iI v0)), (2, .int (iI v2))]) hx hb (okX12_bits (17, .istore_n 1, 1) (List.mem_of_getElem? (i := 14) rfl)) rfl hl (by decide) rfl (fun ls hl => ?_)
      obtain ⟨hr2, hM⟩ := hM
      obtain ⟨v2_18, ev2_18⟩ : ∃ y : Int, y = v2 + 1 := ⟨_, rfl⟩
      have hM := hM v2_18 ev2_18
      have hr_v2_18 : rI v2_18 := by rw [ev2_18]; exact hr2
      refine lv_iinc (v := iI v2_18) (lv' := [(2, .int (iI v2_18)), (1, .int (iI v1_17)), (0, .int (iI v0))]) hx hb (okX12_bits (18, .iinc 2 1, 3) (List.mem_of_getElem? (i := 15) rfl)) hl (k := 2) rfl (by rw [ev2_18]; exact iI_add _ _) (by decide) rfl (fun ls hl => ?_)
      refine lv_goto (tgt := 4) hx hb (okX12_bits (21, .goto (-17), 3) (List.mem_of_getElem? (i := 16) rfl)) (by decide) ?_
      exact (hX_4 v1_17 v2_18 I).1 hM hr_v1_17 hr_v2_18 H locs ls hw (lv_sub hl [2, 1, 0] rfl)
  unfold M_Mo_bits at hM
  intro H locs hw
  refine lv_iconst (v := iI 0) hx hb (okX12_bits (0, .iconst 0, 1) (List.mem_of_getElem? (i := 0) rfl)) rfl ?_
  refine lv_istore_n (lv' := [(1, .int (iI 0)), (0, .int (iI p0))]) hx hb (okX12_bits (1, .istore_n 1, 1) (List.mem_of_getElem? (i := 1) rfl)) rfl hl (by decide) rfl (fun ls hl => ?_)
  refine lv_iconst (v := iI 0) hx hb (okX12_bits (2, .iconst 0, 1) (List.mem_of_getElem? (i := 2) rfl)) rfl ?_
  refine lv_istore_n (lv' := [(2, .int (iI 0)), (1, .int (iI 0)), (0, .int (iI p0))]) hx hb (okX12_bits (3, .istore_n 2, 1) (List.mem_of_getElem? (i := 3) rfl)) rfl hl (by decide) rfl (fun ls hl => ?_)
  exact hJ_4 p0 0 0 I hr_p0 (by decide) (by decide) hM H locs ls hw (lv_sub hl [2, 1, 0] rfl)
def rmX12_greater : Room := { frames := 0, cells := 0, slots := 0, locals := 0 }
set_option maxHeartbeats 4000000 in
set_option maxRecDepth 100000 in
theorem c_Mo_greater (l : Launch) (G : sk_G) {p0 p1 : Int} (hr_p0 : rI p0) (hr_p1 : rI p1) {Q : Int → sk_S → Prop} {I : sk_S} (hM : M_Mo_greater p0 p1 Q I) : Met l yX12_greater wsX12_greater rmX12_greater (va_Pc [.int (iI p0), .int (iI p1)] (sk_U G 198 sk_t I)) (sk_Qi G 198 sk_t Q) 0 0 (sk_A G) := by
  refine Met.ofW (cc := cX12_greater) (maxL := 2) (ret := (some .int)) (by decide) rfl ?_
  intro p e s m args below meth c s₁ B hml hv
  obtain ⟨rfl, hU, hK⟩ := hv
  have hx := B.exec
  have hb := B.bytes
  have hr0 := B.returns
  have hts := atoms_spec (ws := wsX12_greater) B.pre
  have hown : s.vm.findClass RX12 = some m.cls := findClass_of_methodNamed B.named
  have hlocks := B.notSynchronized
  have S : CallFix p m c cX12_greater 2 s ([.int (iI p0), .int (iI p1)].toArray) wsX12_greater RX12 := ⟨hx, hb, hml, hown, hts⟩
  have hw : sk_W G 198 sk_t I s s.heap [] := ⟨hU, va_S.rf⟩
  have hl := lv_entry ([.int (iI p0), .int (iI p1)]) (n := 2) (Nat.le_of_ble_eq_true rfl)
  rw [lg_entry_eq]
  generalize (lg_sl ([.int (iI p0), .int (iI p1)]) ++ List.replicate (2 - (lg_sl ([.int (iI p0), .int (iI p1)])).length) Slot.unset).toArray = ls at hl ⊢
  have hl : lv_has ls 2 [(0, .int (iI p0)), (1, .int (iI p1))] := hl
  suffices hgo : ∀ (H : Heap) (locs : List Loc), sk_W G 198 sk_t I s H locs → W p l e (headSpec wsX12_greater rmX12_greater).room s m ([.int (iI p0), .int (iI p1)].toArray) below meth c H locs 0 0 (MQ below (sk_Qi G 198 sk_t Q) ([.int (iI p0), .int (iI p1)].toArray) s 0 0 (sk_A G)) (F0 m 0 ls []) from hgo _ _ hw
  unfold M_Mo_greater at hM
  intro H locs hw
  refine lv_iload_n hx hb (okX12_greater (0, .iload_n 0, 1) (List.mem_of_getElem? (i := 0) rfl)) rfl (lv_at hl 0 rfl) ?_
  refine lv_iload_n hx hb (okX12_greater (1, .iload_n 1, 1) (List.mem_of_getElem? (i := 1) rfl)) rfl (lv_at hl 1 rfl) ?_
  refine sk_icmp_le (tgt := 9) hx hb hr_p0 hr_p1 (okX12_greater (2, .if_icmp .le 7, 3) (List.mem_of_getElem? (i := 2) rfl)) (by decide) (fun c2 => ?_) (fun c2 => ?_)
  · have hM := hM.1 c2
    refine lv_iload_n hx hb (okX12_greater (9, .iload_n 1, 1) (List.mem_of_getElem? (i := 5) rfl)) rfl (lv_at hl 1 rfl) ?_
    exact sk_iret hx hb hr0 hlocks hK hw hr_p1 hM (okX12_greater (10, .ireturn, 1) (List.mem_of_getElem? (i := 6) rfl))
  · have hM := hM.2 c2
    refine lv_iload_n hx hb (okX12_greater (5, .iload_n 0, 1) (List.mem_of_getElem? (i := 3) rfl)) rfl (lv_at hl 0 rfl) ?_
    refine lv_goto (tgt := 10) hx hb (okX12_greater (6, .goto 4, 3) (List.mem_of_getElem? (i := 4) rfl)) (by decide) ?_
    exact sk_iret hx hb hr0 hlocks hK hw hr_p0 hM (okX12_greater (10, .ireturn, 1) (List.mem_of_getElem? (i := 6) rfl))
def rmX12_assigns : Room := { frames := 1, cells := 0, slots := 0, locals := 54 }
set_option maxHeartbeats 4000000 in
set_option maxRecDepth 100000 in
theorem c_Mo_assigns (l : Launch) (G : sk_G) {p1 : Int} (hr_p1 : rI p1) {Q : Int → sk_S → Prop} {I : sk_S} (hM : M_Mo_assigns p1 Q I) : Met l yX12_assigns wsX12_assigns rmX12_assigns (va_Pc [.ref (sk_ad G 158), .int (iI p1)] (sk_U G 198 sk_t I)) (sk_Qi G 198 sk_t Q) 0 0 (sk_A G) := by
  refine Met.ofW (cc := cX12_assigns) (maxL := 7) (ret := (some .int)) (by decide) rfl ?_
  intro p e s m args below meth c s₁ B hml hv
  obtain ⟨rfl, hU, hK⟩ := hv
  have hx := B.exec
  have hb := B.bytes
  have hr0 := B.returns
  have hts := atoms_spec (ws := wsX12_assigns) B.pre
  have hown : s.vm.findClass RX12 = some m.cls := findClass_of_methodNamed B.named
  have hlocks := B.notSynchronized
  have S : CallFix p m c cX12_assigns 7 s ([.ref (sk_ad G 158), .int (iI p1)].toArray) wsX12_assigns RX12 := ⟨hx, hb, hml, hown, hts⟩
  have hL0 := hts (.fieldLink RX12 65 "SkyLightsModel" "manyOf" "[I") (by decide +kernel)
  have hL1 := hts (.fieldLink RX12 71 "SkyLightsModel" "way" "[I") (by decide +kernel)
  have hL2 := hts (.fieldLink RX12 41 "SkyLightsModel" "fromX" "[I") (by decide +kernel)
  have hL3 := hts (.fieldLink RX12 50 "SkyLightsModel" "toX" "[I") (by decide +kernel)
  have hL4 := hts (.fieldLink RX12 44 "SkyLightsModel" "fromY" "[I") (by decide +kernel)
  have hL5 := hts (.fieldLink RX12 53 "SkyLightsModel" "toY" "[I") (by decide +kernel)
  have hL6 := hts (.fieldLink RX12 47 "SkyLightsModel" "fromZ" "[I") (by decide +kernel)
  have hL7 := hts (.fieldLink RX12 56 "SkyLightsModel" "toZ" "[I") (by decide +kernel)
  have hL8 := hts (.fieldLink RX12 74 "SkyLightsModel" "most" "[I") (by decide +kernel)
  have hL9 := hts (.constant RX12 247 (1000000000)) (by decide +kernel)
  have hL10 := hts (.fieldLink RX12 77 "SkyLightsModel" "goesTo" "[I") (by decide +kernel)
  have hL11 := hts (.fieldLink RX12 80 "SkyLightsModel" "oldX" "[I") (by decide +kernel)
  have hL12 := hts (.fieldLink RX12 83 "SkyLightsModel" "oldY" "[I") (by decide +kernel)
  have hL13 := hts (.fieldLink RX12 86 "SkyLightsModel" "oldZ" "[I") (by decide +kernel)
  have hI12 : ∀ w ∈ u_ws RX12 TX12 53, w ∈ wsX12_assigns := by decide +kernel
  have hw : sk_W G 198 sk_t I s s.heap [] := ⟨hU, va_S.rf⟩
  have hl := lv_entry ([.ref (sk_ad G 158), .int (iI p1)]) (n := 7) (Nat.le_of_ble_eq_true rfl)
  rw [lg_entry_eq]
  generalize (lg_sl ([.ref (sk_ad G 158), .int (iI p1)]) ++ List.replicate (7 - (lg_sl ([.ref (sk_ad G 158), .int (iI p1)])).length) Slot.unset).toArray = ls at hl ⊢
  have hl : lv_has ls 7 [(0, .ref (sk_ad G 158)), (1, .int (iI p1))] := hl
  suffices hgo : ∀ (H : Heap) (locs : List Loc), sk_W G 198 sk_t I s H locs → W p l e (headSpec wsX12_assigns rmX12_assigns).room s m ([.ref (sk_ad G 158), .int (iI p1)].toArray) below meth c H locs 0 0 (MQ below (sk_Qi G 198 sk_t Q) ([.ref (sk_ad G 158), .int (iI p1)].toArray) s 0 0 (sk_A G)) (F0 m 0 ls []) from hgo _ _ hw
  have hJ_421 : ∀ (v1 v2 v4 : Int) (I : sk_S), rI v1 → rI v2 → rI v4 → L_Mo_assigns_421 v1 v2 Q v4 I → ∀ (H : Heap) (locs : List Loc) (ls : Array Slot), sk_W G 198 sk_t I s H locs → lv_has ls 7 [(0, .ref (sk_ad G 158)), (1, .int (iI v1)), (2, .int (iI v2)), (4, .int (iI v4))] → W p l e (headSpec wsX12_assigns rmX12_assigns).room s m ([.ref (sk_ad G 158), .int (iI p1)].toArray) below meth c H locs 0 0 (MQ below (sk_Qi G 198 sk_t Q) ([.ref (sk_ad G 158), .int (iI p1)].toArray) s 0 0 (sk_A G)) (F0 m 421 ls []) := by
    intro v1 v2 v4 I hr_v1 hr_v2 hr_v4 hM H locs ls hw hl
    unfold L_Mo_assigns_421 at hM
    obtain ⟨X_421, hX_421⟩ : ∃ X : Int → sk_S → Prop, ∀ (v4 : Int) (I : sk_S), X v4 I ↔ (rI v4 → ∀ (H : Heap) (locs : List Loc) (ls : Array Slot), sk_W G 198 sk_t I s H locs → lv_has ls 7 [(0, .ref (sk_ad G 158)), (1, .int (iI v1)), (2, .int (iI v2)), (4, .int (iI v4))] → W p l e (headSpec wsX12_assigns rmX12_assigns).room s m ([.ref (sk_ad G 158), .int (iI p1)].toArray) below meth c H locs 0 0 (MQ below (sk_Qi G 198 sk_t Q) ([.ref (sk_ad G 158), .int (iI p1)].toArray) s 0 0 (sk_A G)) (F0 m 421 ls [])) := ⟨_, fun _ _ => Iff.rfl⟩
    refine (hX_421 v4 I).1 (hM X_421 (fun v4 I hM => (hX_421 v4 I).2 (fun hr_v4 H locs ls hw hl => ?_))) hr_v4 H locs ls hw hl
    refine lv_iload hx hb (okX12_assigns (421, .iload 4, 2) (List.mem_of_getElem? (i := 255) rfl)) (lv_at hl 3 rfl) ?_
    refine lv_iload_n hx hb (okX12_assigns (423, .iload_n 2, 1) (List.mem_of_getElem? (i := 256) rfl)) rfl (lv_at hl 2 rfl) ?_
    refine sk_icmp_ge (tgt := 505) hx hb hr_v4 hr_v2 (okX12_assigns (424, .if_icmp .ge 81, 3) (List.mem_of_getElem? (i := 257) rfl)) (by decide) (fun c424 => ?_) (fun c424 => ?_)
    · have hM := hM.1 c424
      refine lv_aload_n hx hb (okX12_assigns (505, .aload_n 0, 1) (List.mem_of_getElem? (i := 305) rfl)) rfl (lv_at hl 0 rfl) ?_
      refine sk_getr (b := 179) S hK hw kdn_158 (kd_in kdn_158) (C := RX12) (T := TX12) (N := 53) rfl hI12 29 ⟨by decide, rfl, by decide, rfl⟩ rfl (k' := 29) rfl rfl (by decide +kernel) hL8 (okX12_assigns (506, .getfield 74, 3) (List.mem_of_getElem? (i := 306) rfl)) ?_
      refine lv_iconst (v := iI 0) hx hb (okX12_assigns (509, .iconst 0, 1) (List.mem_of_getElem? (i := 307) rfl)) rfl ?_
      obtain ⟨hi54, hM⟩ := hM
      have hr55 := hw.1.2.2 179 0
      refine sk_ild S hK hw kdn_179 (kd_in kdn_179) (by rw [lnn_179]; exact hi54) (okX12_assigns (510, .iaload, 1) (List.mem_of_getElem? (i := 308) rfl)) ?_
      exact sk_iret hx hb hr0 hlocks hK hw hr55 hM (okX12_assigns (511, .ireturn, 1) (List.mem_of_getElem? (i := 309) rfl))
    · have hM := hM.2 c424
      refine lv_aload_n hx hb (okX12_assigns (427, .aload_n 0, 1) (List.mem_of_getElem? (i := 258) rfl)) rfl (lv_at hl 0 rfl) ?_
      refine sk_getr (b := 171) S hK hw kdn_158 (kd_in kdn_158) (C := RX12) (T := TX12) (N := 53) rfl hI12 21 ⟨by decide, rfl, by decide, rfl⟩ rfl (k' := 21) rfl rfl (by decide +kernel) hL3 (okX12_assigns (428, .getfield 50, 3) (List.mem_of_getElem? (i := 259) rfl)) ?_
      refine lv_bipush (v := iI 10) hx hb (okX12_assigns (431, .bipush 10, 2) (List.mem_of_getElem? (i := 260) rfl)) (by decide +kernel) ?_
      refine lv_iload_n hx hb (okX12_assigns (433, .iload_n 1, 1) (List.mem_of_getElem? (i := 261) rfl)) rfl (lv_at hl 1 rfl) ?_
      refine sk_imul hx hb (okX12_assigns (434, .imul, 1) (List.mem_of_getElem? (i := 262) rfl)) ?_
      refine lv_iload hx hb (okX12_assigns (435, .iload 4, 2) (List.mem_of_getElem? (i := 263) rfl)) (lv_at hl 3 rfl) ?_
      refine sk_iadd hx hb (okX12_assigns (437, .iadd, 1) (List.mem_of_getElem? (i := 264) rfl)) ?_
      refine lv_aload_n hx hb (okX12_assigns (438, .aload_n 0, 1) (List.mem_of_getElem? (i := 265) rfl)) rfl (lv_at hl 0 rfl) ?_
      refine sk_getr (b := 181) S hK hw kdn_158 (kd_in kdn_158) (C := RX12) (T := TX12) (N := 53) rfl hI12 31 ⟨by decide, rfl, by decide, rfl⟩ rfl (k' := 31) rfl rfl (by decide +kernel) hL11 (okX12_assigns (439, .getfield 80, 3) (List.mem_of_getElem? (i := 266) rfl)) ?_
      refine lv_aload_n hx hb (okX12_assigns (442, .aload_n 0, 1) (List.mem_of_getElem? (i := 267) rfl)) rfl (lv_at hl 0 rfl) ?_
      refine sk_getr (b := 180) S hK hw kdn_158 (kd_in kdn_158) (C := RX12) (T := TX12) (N := 53) rfl hI12 30 ⟨by decide, rfl, by decide, rfl⟩ rfl (k' := 30) rfl rfl (by decide +kernel) hL10 (okX12_assigns (443, .getfield 77, 3) (List.mem_of_getElem? (i := 268) rfl)) ?_
      refine lv_iload hx hb (okX12_assigns (446, .iload 4, 2) (List.mem_of_getElem? (i := 269) rfl)) (lv_at hl 3 rfl) ?_
      obtain ⟨hi56, hM⟩ := hM
      have hr57 := hw.1.2.2 180 v4
      refine sk_ild S hK hw kdn_180 (kd_in kdn_180) (by rw [lnn_180]; exact hi56) (okX12_assigns (448, .iaload, 1) (List.mem_of_getElem? (i := 270) rfl)) ?_
      obtain ⟨hi58, hM⟩ := hM
      have hr59 := hw.1.2.2 181 (I 180 v4)
      refine sk_ild S hK hw kdn_181 (kd_in kdn_181) (by rw [lnn_181]; exact hi58) (okX12_assigns (449, .iaload, 1) (List.mem_of_getElem? (i := 271) rfl)) ?_
      obtain ⟨hi60, hM⟩ := hM
      refine sk_ist S hK hw kdn_171 (kd_in kdn_171) (by rw [lnn_171]; exact hi60) hr59 (okX12_assigns (450, .iastore, 1) (List.mem_of_getElem? (i := 272) rfl)) (fun H locs hw => ?_)
      refine lv_aload_n hx hb (okX12_assigns (451, .aload_n 0, 1) (List.mem_of_getElem? (i := 273) rfl)) rfl (lv_at hl 0 rfl) ?_
      refine sk_getr (b := 172) S hK hw kdn_158 (kd_in kdn_158) (C := RX12) (T := TX12) (N := 53) rfl hI12 22 ⟨by decide, rfl, by decide, rfl⟩ rfl (k' := 22) rfl rfl (by decide +kernel) hL5 (okX12_assigns (452, .getfield 53, 3) (List.mem_of_getElem? (i := 274) rfl)) ?_
      refine lv_bipush (v := iI 10) hx hb (okX12_assigns (455, .bipush 10, 2) (List.mem_of_getElem? (i := 275) rfl)) (by decide +kernel) ?_
      refine lv_iload_n hx hb (okX12_assigns (457, .iload_n 1, 1) (List.mem_of_getElem? (i := 276) rfl)) rfl (lv_at hl 1 rfl) ?_
      refine sk_imul hx hb (okX12_assigns (458, .imul, 1) (List.mem_of_getElem? (i := 277) rfl)) ?_
      refine lv_iload hx hb (okX12_assigns (459, .iload 4, 2) (List.mem_of_getElem? (i := 278) rfl)) (lv_at hl 3 rfl) ?_
      refine sk_iadd hx hb (okX12_assigns (461, .iadd, 1) (List.mem_of_getElem? (i := 279) rfl)) ?_
      refine lv_aload_n hx hb (okX12_assigns (462, .aload_n 0, 1) (List.mem_of_getElem? (i := 280) rfl)) rfl (lv_at hl 0 rfl) ?_
      refine sk_getr (b := 182) S hK hw kdn_158 (kd_in kdn_158) (C := RX12) (T := TX12) (N := 53) rfl hI12 32 ⟨by decide, rfl, by decide, rfl⟩ rfl (k' := 32) rfl rfl (by decide +kernel) hL12 (okX12_assigns (463, .getfield 83, 3) (List.mem_of_getElem? (i := 281) rfl)) ?_
      refine lv_aload_n hx hb (okX12_assigns (466, .aload_n 0, 1) (List.mem_of_getElem? (i := 282) rfl)) rfl (lv_at hl 0 rfl) ?_
      refine sk_getr (b := 180) S hK hw kdn_158 (kd_in kdn_158) (C := RX12) (T := TX12) (N := 53) rfl hI12 30 ⟨by decide, rfl, by decide, rfl⟩ rfl (k' := 30) rfl rfl (by decide +kernel) hL10 (okX12_assigns (467, .getfield 77, 3) (List.mem_of_getElem? (i := 283) rfl)) ?_
      refine lv_iload hx hb (okX12_assigns (470, .iload 4, 2) (List.mem_of_getElem? (i := 284) rfl)) (lv_at hl 3 rfl) ?_
      obtain ⟨hi61, hM⟩ := hM
      have hr62 := hw.1.2.2 180 v4
      refine sk_ild S hK hw kdn_180 (kd_in kdn_180) (by rw [lnn_180]; exact hi61) (okX12_assigns (472, .iaload, 1) (List.mem_of_getElem? (i := 285) rfl)) ?_
      obtain ⟨hi63, hM⟩ := hM
      have hr64 := hw.1.2.2 182 ((up I 171 ((10 * v1) + v4) (I 181 (I 180 v4))) 180 v4)
      refine sk_ild S hK hw kdn_182 (kd_in kdn_182) (by rw [lnn_182]; exact hi63) (okX12_assigns (473, .iaload, 1) (List.mem_of_getElem? (i := 286) rfl)) ?_
      obtain ⟨hi65, hM⟩ := hM
      refine sk_ist S hK hw kdn_172 (kd_in kdn_172) (by rw [lnn_172]; exact hi65) hr64 (okX12_assigns (474, .iastore, 1) (List.mem_of_getElem? (i := 287) rfl)) (fun H locs hw => ?_)
      refine lv_aload_n hx hb (okX12_assigns (475, .aload_n 0, 1) (List.mem_of_getElem? (i := 288) rfl)) rfl (lv_at hl 0 rfl) ?_
      refine sk_getr (b := 173) S hK hw kdn_158 (kd_in kdn_158) (C := RX12) (T := TX12) (N := 53) rfl hI12 23 ⟨by decide, rfl, by decide, rfl⟩ rfl (k' := 23) rfl rfl (by decide +kernel) hL7 (okX12_assigns (476, .getfield 56, 3) (List.mem_of_getElem? (i := 289) rfl)) ?_
      refine lv_bipush (v := iI 10) hx hb (okX12_assigns (479, .bipush 10, 2) (List.mem_of_getElem? (i := 290) rfl)) (by decide +kernel) ?_
      refine lv_iload_n hx hb (okX12_assigns (481, .iload_n 1, 1) (List.mem_of_getElem? (i := 291) rfl)) rfl (lv_at hl 1 rfl) ?_
      refine sk_imul hx hb (okX12_assigns (482, .imul, 1) (List.mem_of_getElem? (i := 292) rfl)) ?_
      refine lv_iload hx hb (okX12_assigns (483, .iload 4, 2) (List.mem_of_getElem? (i := 293) rfl)) (lv_at hl 3 rfl) ?_
      refine sk_iadd hx hb (okX12_assigns (485, .iadd, 1) (List.mem_of_getElem? (i := 294) rfl)) ?_
      refine lv_aload_n hx hb (okX12_assigns (486, .aload_n 0, 1) (List.mem_of_getElem? (i := 295) rfl)) rfl (lv_at hl 0 rfl) ?_
      refine sk_getr (b := 183) S hK hw kdn_158 (kd_in kdn_158) (C := RX12) (T := TX12) (N := 53) rfl hI12 33 ⟨by decide, rfl, by decide, rfl⟩ rfl (k' := 33) rfl rfl (by decide +kernel) hL13 (okX12_assigns (487, .getfield 86, 3) (List.mem_of_getElem? (i := 296) rfl)) ?_
      refine lv_aload_n hx hb (okX12_assigns (490, .aload_n 0, 1) (List.mem_of_getElem? (i := 297) rfl)) rfl (lv_at hl 0 rfl) ?_
      refine sk_getr (b := 180) S hK hw kdn_158 (kd_in kdn_158) (C := RX12) (T := TX12) (N := 53) rfl hI12 30 ⟨by decide, rfl, by decide, rfl⟩ rfl (k' := 30) rfl rfl (by decide +kernel) hL10 (okX12_assigns (491, .getfield 77, 3) (List.mem_of_getElem? (i := 298) rfl)) ?_
      refine lv_iload hx hb (okX12_assigns (494, .iload 4, 2) (List.mem_of_getElem? (i := 299) rfl)) (lv_at hl 3 rfl) ?_
      obtain ⟨hi66, hM⟩ := hM
      have hr67 := hw.1.2.2 180 v4
      refine sk_ild S hK hw kdn_180 (kd_in kdn_180) (by rw [lnn_180]; exact hi66) (okX12_assigns (496, .iaload, 1) (List.mem_of_getElem? (i := 300) rfl)) ?_
      obtain ⟨hi68, hM⟩ := hM
      have hr69 := hw.1.2.2 183 ((up (up I 171 ((10 * v1) + v4) (I 181 (I 180 v4))) 172 ((10 * v1) + v4) ((up I 171 ((10 * v1) + v4) (I 181 (I 180 v4))) 182 ((up I 171 ((10 * v1) + v4) (I 181 (I 180 v4))) 180 v4))) 180 v4)
      refine sk_ild S hK hw kdn_183 (kd_in kdn_183) (by rw [lnn_183]; exact hi68) (okX12_assigns (497, .iaload, 1) (List.mem_of_getElem? (i := 301) rfl)) ?_
      obtain ⟨hi70, hM⟩ := hM
      refine sk_ist S hK hw kdn_173 (kd_in kdn_173) (by rw [lnn_173]; exact hi70) hr69 (okX12_assigns (498, .iastore, 1) (List.mem_of_getElem? (i := 302) rfl)) (fun H locs hw => ?_)
      obtain ⟨hr71, hM⟩ := hM
      obtain ⟨v4_499, ev4_499⟩ : ∃ y : Int, y = v4 + 1 := ⟨_, rfl⟩
      have hM := hM v4_499 ev4_499
      have hr_v4_499 : rI v4_499 := by rw [ev4_499]; exact hr71
      refine lv_iinc (v := iI v4_499) (lv' := [(4, .int (iI v4_499)), (0, .ref (sk_ad G 158)), (1, .int (iI v1)), (2, .int (iI v2))]) hx hb (okX12_assigns (499, .iinc 4 1, 3) (List.mem_of_getElem? (i := 303) rfl)) hl (k := 3) rfl (by rw [ev4_499]; exact iI_add _ _) (by decide) rfl (fun ls hl => ?_)
      refine lv_goto (tgt := 421) hx hb (okX12_assigns (502, .goto (-81), 3) (List.mem_of_getElem? (i := 304) rfl)) (by decide) ?_
      exact (hX_421 v4_499 (up (up (up I 171 ((10 * v1) + v4) (I 181 (I 180 v4))) 172 ((10 * v1) + v4) ((up I 171 ((10 * v1) + v4) (I 181 (I 180 v4))) 182 ((up I 171 ((10 * v1) + v4) (I 181 (I 180 v4))) 180 v4))) 173 ((10 * v1) + v4) ((up (up I 171 ((10 * v1) + v4) (I 181 (I 180 v4))) 172 ((10 * v1) + v4) ((up I 171 ((10 * v1) + v4) (I 181 (I 180 v4))) 182 ((up I 171 ((10 * v1) + v4) (I 181 (I 180 v4))) 180 v4))) 183 ((up (up I 171 ((10 * v1) + v4) (I 181 (I 180 v4))) 172 ((10 * v1) + v4) ((up I 171 ((10 * v1) + v4) (I 181 (I 180 v4))) 182 ((up I 171 ((10 * v1) + v4) (I 181 (I 180 v4))) 180 v4))) 180 v4)))).1 hM hr_v4_499 H locs ls hw (lv_sub hl [1, 2, 3, 0] rfl)
  have hJ_418 : ∀ (v1 v2 : Int) (I : sk_S), rI v1 → rI v2 → J_Mo_assigns_418 v1 v2 Q I → ∀ (H : Heap) (locs : List Loc) (ls : Array Slot), sk_W G 198 sk_t I s H locs → lv_has ls 7 [(0, .ref (sk_ad G 158)), (1, .int (iI v1)), (2, .int (iI v2))] → W p l e (headSpec wsX12_assigns rmX12_assigns).room s m ([.ref (sk_ad G 158), .int (iI p1)].toArray) below meth c H locs 0 0 (MQ below (sk_Qi G 198 sk_t Q) ([.ref (sk_ad G 158), .int (iI p1)].toArray) s 0 0 (sk_A G)) (F0 m 418 ls []) := by
    intro v1 v2 I hr_v1 hr_v2 hM H locs ls hw hl
    unfold J_Mo_assigns_418 at hM
    refine lv_iconst (v := iI 0) hx hb (okX12_assigns (418, .iconst 0, 1) (List.mem_of_getElem? (i := 253) rfl)) rfl ?_
    refine lv_istore (lv' := [(4, .int (iI 0)), (0, .ref (sk_ad G 158)), (1, .int (iI v1)), (2, .int (iI v2))]) hx hb (okX12_assigns (419, .istore 4, 2) (List.mem_of_getElem? (i := 254) rfl)) hl (by decide) rfl (fun ls hl => ?_)
    exact hJ_421 v1 v2 0 I hr_v1 hr_v2 (by decide) hM H locs ls hw (lv_sub hl [1, 2, 3, 0] rfl)
  have hJ_349 : ∀ (v1 v2 v4 : Int) (I : sk_S), rI v1 → rI v2 → rI v4 → L_Mo_assigns_349 v1 v2 Q v4 I → ∀ (H : Heap) (locs : List Loc) (ls : Array Slot), sk_W G 198 sk_t I s H locs → lv_has ls 7 [(0, .ref (sk_ad G 158)), (1, .int (iI v1)), (2, .int (iI v2)), (4, .int (iI v4))] → W p l e (headSpec wsX12_assigns rmX12_assigns).room s m ([.ref (sk_ad G 158), .int (iI p1)].toArray) below meth c H locs 0 0 (MQ below (sk_Qi G 198 sk_t Q) ([.ref (sk_ad G 158), .int (iI p1)].toArray) s 0 0 (sk_A G)) (F0 m 349 ls []) := by
    intro v1 v2 v4 I hr_v1 hr_v2 hr_v4 hM H locs ls hw hl
    unfold L_Mo_assigns_349 at hM
    obtain ⟨X_349, hX_349⟩ : ∃ X : Int → sk_S → Prop, ∀ (v4 : Int) (I : sk_S), X v4 I ↔ (rI v4 → ∀ (H : Heap) (locs : List Loc) (ls : Array Slot), sk_W G 198 sk_t I s H locs → lv_has ls 7 [(0, .ref (sk_ad G 158)), (1, .int (iI v1)), (2, .int (iI v2)), (4, .int (iI v4))] → W p l e (headSpec wsX12_assigns rmX12_assigns).room s m ([.ref (sk_ad G 158), .int (iI p1)].toArray) below meth c H locs 0 0 (MQ below (sk_Qi G 198 sk_t Q) ([.ref (sk_ad G 158), .int (iI p1)].toArray) s 0 0 (sk_A G)) (F0 m 349 ls [])) := ⟨_, fun _ _ => Iff.rfl⟩
    refine (hX_349 v4 I).1 (hM X_349 (fun v4 I hM => (hX_349 v4 I).2 (fun hr_v4 H locs ls hw hl => ?_))) hr_v4 H locs ls hw hl
    refine lv_iload hx hb (okX12_assigns (349, .iload 4, 2) (List.mem_of_getElem? (i := 212) rfl)) (lv_at hl 3 rfl) ?_
    refine lv_iload_n hx hb (okX12_assigns (351, .iload_n 2, 1) (List.mem_of_getElem? (i := 213) rfl)) rfl (lv_at hl 2 rfl) ?_
    refine sk_icmp_ge (tgt := 418) hx hb hr_v4 hr_v2 (okX12_assigns (352, .if_icmp .ge 66, 3) (List.mem_of_getElem? (i := 214) rfl)) (by decide) (fun c352 => ?_) (fun c352 => ?_)
    · have hM := hM.1 c352
      exact hJ_418 v1 v2 I hr_v1 hr_v2 hM H locs ls hw (lv_sub hl [0, 1, 2] rfl)
    · have hM := hM.2 c352
      refine lv_aload_n hx hb (okX12_assigns (355, .aload_n 0, 1) (List.mem_of_getElem? (i := 215) rfl)) rfl (lv_at hl 0 rfl) ?_
      refine sk_getr (b := 181) S hK hw kdn_158 (kd_in kdn_158) (C := RX12) (T := TX12) (N := 53) rfl hI12 31 ⟨by decide, rfl, by decide, rfl⟩ rfl (k' := 31) rfl rfl (by decide +kernel) hL11 (okX12_assigns (356, .getfield 80, 3) (List.mem_of_getElem? (i := 216) rfl)) ?_
      refine lv_iload hx hb (okX12_assigns (359, .iload 4, 2) (List.mem_of_getElem? (i := 217) rfl)) (lv_at hl 3 rfl) ?_
      refine lv_aload_n hx hb (okX12_assigns (361, .aload_n 0, 1) (List.mem_of_getElem? (i := 218) rfl)) rfl (lv_at hl 0 rfl) ?_
      refine sk_getr (b := 171) S hK hw kdn_158 (kd_in kdn_158) (C := RX12) (T := TX12) (N := 53) rfl hI12 21 ⟨by decide, rfl, by decide, rfl⟩ rfl (k' := 21) rfl rfl (by decide +kernel) hL3 (okX12_assigns (362, .getfield 50, 3) (List.mem_of_getElem? (i := 219) rfl)) ?_
      refine lv_bipush (v := iI 10) hx hb (okX12_assigns (365, .bipush 10, 2) (List.mem_of_getElem? (i := 220) rfl)) (by decide +kernel) ?_
      refine lv_iload_n hx hb (okX12_assigns (367, .iload_n 1, 1) (List.mem_of_getElem? (i := 221) rfl)) rfl (lv_at hl 1 rfl) ?_
      refine sk_imul hx hb (okX12_assigns (368, .imul, 1) (List.mem_of_getElem? (i := 222) rfl)) ?_
      refine lv_iload hx hb (okX12_assigns (369, .iload 4, 2) (List.mem_of_getElem? (i := 223) rfl)) (lv_at hl 3 rfl) ?_
      refine sk_iadd hx hb (okX12_assigns (371, .iadd, 1) (List.mem_of_getElem? (i := 224) rfl)) ?_
      obtain ⟨hi44, hM⟩ := hM
      have hr45 := hw.1.2.2 171 ((10 * v1) + v4)
      refine sk_ild S hK hw kdn_171 (kd_in kdn_171) (by rw [lnn_171]; exact hi44) (okX12_assigns (372, .iaload, 1) (List.mem_of_getElem? (i := 225) rfl)) ?_
      obtain ⟨hi46, hM⟩ := hM
      refine sk_ist S hK hw kdn_181 (kd_in kdn_181) (by rw [lnn_181]; exact hi46) hr45 (okX12_assigns (373, .iastore, 1) (List.mem_of_getElem? (i := 226) rfl)) (fun H locs hw => ?_)
      refine lv_aload_n hx hb (okX12_assigns (374, .aload_n 0, 1) (List.mem_of_getElem? (i := 227) rfl)) rfl (lv_at hl 0 rfl) ?_
      refine sk_getr (b := 182) S hK hw kdn_158 (kd_in kdn_158) (C := RX12) (T := TX12) (N := 53) rfl hI12 32 ⟨by decide, rfl, by decide, rfl⟩ rfl (k' := 32) rfl rfl (by decide +kernel) hL12 (okX12_assigns (375, .getfield 83, 3) (List.mem_of_getElem? (i := 228) rfl)) ?_
      refine lv_iload hx hb (okX12_assigns (378, .iload 4, 2) (List.mem_of_getElem? (i := 229) rfl)) (lv_at hl 3 rfl) ?_
      refine lv_aload_n hx hb (okX12_assigns (380, .aload_n 0, 1) (List.mem_of_getElem? (i := 230) rfl)) rfl (lv_at hl 0 rfl) ?_
      refine sk_getr (b := 172) S hK hw kdn_158 (kd_in kdn_158) (C := RX12) (T := TX12) (N := 53) rfl hI12 22 ⟨by decide, rfl, by decide, rfl⟩ rfl (k' := 22) rfl rfl (by decide +kernel) hL5 (okX12_assigns (381, .getfield 53, 3) (List.mem_of_getElem? (i := 231) rfl)) ?_
      refine lv_bipush (v := iI 10) hx hb (okX12_assigns (384, .bipush 10, 2) (List.mem_of_getElem? (i := 232) rfl)) (by decide +kernel) ?_
      refine lv_iload_n hx hb (okX12_assigns (386, .iload_n 1, 1) (List.mem_of_getElem? (i := 233) rfl)) rfl (lv_at hl 1 rfl) ?_
      refine sk_imul hx hb (okX12_assigns (387, .imul, 1) (List.mem_of_getElem? (i := 234) rfl)) ?_
      refine lv_iload hx hb (okX12_assigns (388, .iload 4, 2) (List.mem_of_getElem? (i := 235) rfl)) (lv_at hl 3 rfl) ?_
      refine sk_iadd hx hb (okX12_assigns (390, .iadd, 1) (List.mem_of_getElem? (i := 236) rfl)) ?_
      obtain ⟨hi47, hM⟩ := hM
      have hr48 := hw.1.2.2 172 ((10 * v1) + v4)
      refine sk_ild S hK hw kdn_172 (kd_in kdn_172) (by rw [lnn_172]; exact hi47) (okX12_assigns (391, .iaload, 1) (List.mem_of_getElem? (i := 237) rfl)) ?_
      obtain ⟨hi49, hM⟩ := hM
      refine sk_ist S hK hw kdn_182 (kd_in kdn_182) (by rw [lnn_182]; exact hi49) hr48 (okX12_assigns (392, .iastore, 1) (List.mem_of_getElem? (i := 238) rfl)) (fun H locs hw => ?_)
      refine lv_aload_n hx hb (okX12_assigns (393, .aload_n 0, 1) (List.mem_of_getElem? (i := 239) rfl)) rfl (lv_at hl 0 rfl) ?_
      refine sk_getr (b := 183) S hK hw kdn_158 (kd_in kdn_158) (C := RX12) (T := TX12) (N := 53) rfl hI12 33 ⟨by decide, rfl, by decide, rfl⟩ rfl (k' := 33) rfl rfl (by decide +kernel) hL13 (okX12_assigns (394, .getfield 86, 3) (List.mem_of_getElem? (i := 240) rfl)) ?_
      refine lv_iload hx hb (okX12_assigns (397, .iload 4, 2) (List.mem_of_getElem? (i := 241) rfl)) (lv_at hl 3 rfl) ?_
      refine lv_aload_n hx hb (okX12_assigns (399, .aload_n 0, 1) (List.mem_of_getElem? (i := 242) rfl)) rfl (lv_at hl 0 rfl) ?_
      refine sk_getr (b := 173) S hK hw kdn_158 (kd_in kdn_158) (C := RX12) (T := TX12) (N := 53) rfl hI12 23 ⟨by decide, rfl, by decide, rfl⟩ rfl (k' := 23) rfl rfl (by decide +kernel) hL7 (okX12_assigns (400, .getfield 56, 3) (List.mem_of_getElem? (i := 243) rfl)) ?_
      refine lv_bipush (v := iI 10) hx hb (okX12_assigns (403, .bipush 10, 2) (List.mem_of_getElem? (i := 244) rfl)) (by decide +kernel) ?_
      refine lv_iload_n hx hb (okX12_assigns (405, .iload_n 1, 1) (List.mem_of_getElem? (i := 245) rfl)) rfl (lv_at hl 1 rfl) ?_
      refine sk_imul hx hb (okX12_assigns (406, .imul, 1) (List.mem_of_getElem? (i := 246) rfl)) ?_
      refine lv_iload hx hb (okX12_assigns (407, .iload 4, 2) (List.mem_of_getElem? (i := 247) rfl)) (lv_at hl 3 rfl) ?_
      refine sk_iadd hx hb (okX12_assigns (409, .iadd, 1) (List.mem_of_getElem? (i := 248) rfl)) ?_
      obtain ⟨hi50, hM⟩ := hM
      have hr51 := hw.1.2.2 173 ((10 * v1) + v4)
      refine sk_ild S hK hw kdn_173 (kd_in kdn_173) (by rw [lnn_173]; exact hi50) (okX12_assigns (410, .iaload, 1) (List.mem_of_getElem? (i := 249) rfl)) ?_
      obtain ⟨hi52, hM⟩ := hM
      refine sk_ist S hK hw kdn_183 (kd_in kdn_183) (by rw [lnn_183]; exact hi52) hr51 (okX12_assigns (411, .iastore, 1) (List.mem_of_getElem? (i := 250) rfl)) (fun H locs hw => ?_)
      obtain ⟨hr53, hM⟩ := hM
      obtain ⟨v4_412, ev4_412⟩ : ∃ y : Int, y = v4 + 1 := ⟨_, rfl⟩
      have hM := hM v4_412 ev4_412
      have hr_v4_412 : rI v4_412 := by rw [ev4_412]; exact hr53
      refine lv_iinc (v := iI v4_412) (lv' := [(4, .int (iI v4_412)), (0, .ref (sk_ad G 158)), (1, .int (iI v1)), (2, .int (iI v2))]) hx hb (okX12_assigns (412, .iinc 4 1, 3) (List.mem_of_getElem? (i := 251) rfl)) hl (k := 3) rfl (by rw [ev4_412]; exact iI_add _ _) (by decide) rfl (fun ls hl => ?_)
      refine lv_goto (tgt := 349) hx hb (okX12_assigns (415, .goto (-66), 3) (List.mem_of_getElem? (i := 252) rfl)) (by decide) ?_
      exact (hX_349 v4_412 (up (up (up I 181 v4 (I 171 ((10 * v1) + v4))) 182 v4 ((up I 181 v4 (I 171 ((10 * v1) + v4))) 172 ((10 * v1) + v4))) 183 v4 ((up (up I 181 v4 (I 171 ((10 * v1) + v4))) 182 v4 ((up I 181 v4 (I 171 ((10 * v1) + v4))) 172 ((10 * v1) + v4))) 173 ((10 * v1) + v4)))).1 hM hr_v4_412 H locs ls hw (lv_sub hl [1, 2, 3, 0] rfl)
  have hJ_346 : ∀ (v1 v2 : Int) (I : sk_S), rI v1 → rI v2 → J_Mo_assigns_346 v1 v2 Q I → ∀ (H : Heap) (locs : List Loc) (ls : Array Slot), sk_W G 198 sk_t I s H locs → lv_has ls 7 [(0, .ref (sk_ad G 158)), (1, .int (iI v1)), (2, .int (iI v2))] → W p l e (headSpec wsX12_assigns rmX12_assigns).room s m ([.ref (sk_ad G 158), .int (iI p1)].toArray) below meth c H locs 0 0 (MQ below (sk_Qi G 198 sk_t Q) ([.ref (sk_ad G 158), .int (iI p1)].toArray) s 0 0 (sk_A G)) (F0 m 346 ls []) := by
    intro v1 v2 I hr_v1 hr_v2 hM H locs ls hw hl
    unfold J_Mo_assigns_346 at hM
    refine lv_iconst (v := iI 0) hx hb (okX12_assigns (346, .iconst 0, 1) (List.mem_of_getElem? (i := 210) rfl)) rfl ?_
    refine lv_istore (lv' := [(4, .int (iI 0)), (0, .ref (sk_ad G 158)), (1, .int (iI v1)), (2, .int (iI v2))]) hx hb (okX12_assigns (347, .istore 4, 2) (List.mem_of_getElem? (i := 211) rfl)) hl (by decide) rfl (fun ls hl => ?_)
    exact hJ_349 v1 v2 0 I hr_v1 hr_v2 (by decide) hM H locs ls hw (lv_sub hl [1, 2, 3, 0] rfl)
  have hJ_257 : ∀ (v1 v2 v3 v4 : Int) (I : sk_S), rI v1 → rI v2 → rI v3 → rI v4 → L_Mo_assigns_257 v1 v2 Q v3 v4 I → ∀ (H : Heap) (locs : List Loc) (ls : Array Slot), sk_W G 198 sk_t I s H locs → lv_has ls 7 [(0, .ref (sk_ad G 158)), (1, .int (iI v1)), (2, .int (iI v2)), (3, .int (iI v3)), (4, .int (iI v4))] → W p l e (headSpec wsX12_assigns rmX12_assigns).room s m ([.ref (sk_ad G 158), .int (iI p1)].toArray) below meth c H locs 0 0 (MQ below (sk_Qi G 198 sk_t Q) ([.ref (sk_ad G 158), .int (iI p1)].toArray) s 0 0 (sk_A G)) (F0 m 257 ls []) := by
    intro v1 v2 v3 v4 I hr_v1 hr_v2 hr_v3 hr_v4 hM H locs ls hw hl
    unfold L_Mo_assigns_257 at hM
    obtain ⟨X_257, hX_257⟩ : ∃ X : Int → Int → sk_S → Prop, ∀ (v3 v4 : Int) (I : sk_S), X v3 v4 I ↔ (rI v3 → rI v4 → ∀ (H : Heap) (locs : List Loc) (ls : Array Slot), sk_W G 198 sk_t I s H locs → lv_has ls 7 [(0, .ref (sk_ad G 158)), (1, .int (iI v1)), (2, .int (iI v2)), (3, .int (iI v3)), (4, .int (iI v4))] → W p l e (headSpec wsX12_assigns rmX12_assigns).room s m ([.ref (sk_ad G 158), .int (iI p1)].toArray) below meth c H locs 0 0 (MQ below (sk_Qi G 198 sk_t Q) ([.ref (sk_ad G 158), .int (iI p1)].toArray) s 0 0 (sk_A G)) (F0 m 257 ls [])) := ⟨_, fun _ _ _ => Iff.rfl⟩
    have hJ_324 : ∀ (v3 v4 v5 : Int) (I : sk_S), rI v3 → rI v4 → rI v5 → J_Mo_assigns_324 v1 v2 v3 v4 v5 Q X_257 I → ∀ (H : Heap) (locs : List Loc) (ls : Array Slot), sk_W G 198 sk_t I s H locs → lv_has ls 7 [(0, .ref (sk_ad G 158)), (1, .int (iI v1)), (2, .int (iI v2)), (3, .int (iI v3)), (4, .int (iI v4)), (5, .int (iI v5))] → W p l e (headSpec wsX12_assigns rmX12_assigns).room s m ([.ref (sk_ad G 158), .int (iI p1)].toArray) below meth c H locs 0 0 (MQ below (sk_Qi G 198 sk_t Q) ([.ref (sk_ad G 158), .int (iI p1)].toArray) s 0 0 (sk_A G)) (F0 m 324 ls []) := by
      intro v3 v4 v5 I hr_v3 hr_v4 hr_v5 hM H locs ls hw hl
      unfold J_Mo_assigns_324 at hM
      refine lv_aload_n hx hb (okX12_assigns (324, .aload_n 0, 1) (List.mem_of_getElem? (i := 197) rfl)) rfl (lv_at hl 0 rfl) ?_
      refine sk_getr (b := 180) S hK hw kdn_158 (kd_in kdn_158) (C := RX12) (T := TX12) (N := 53) rfl hI12 30 ⟨by decide, rfl, by decide, rfl⟩ rfl (k' := 30) rfl rfl (by decide +kernel) hL10 (okX12_assigns (325, .getfield 77, 3) (List.mem_of_getElem? (i := 198) rfl)) ?_
      refine lv_iload hx hb (okX12_assigns (328, .iload 4, 2) (List.mem_of_getElem? (i := 199) rfl)) (lv_at hl 4 rfl) ?_
      refine lv_iload hx hb (okX12_assigns (330, .iload 5, 2) (List.mem_of_getElem? (i := 200) rfl)) (lv_at hl 5 rfl) ?_
      obtain ⟨hi41, hM⟩ := hM
      refine sk_ist S hK hw kdn_180 (kd_in kdn_180) (by rw [lnn_180]; exact hi41) hr_v5 (okX12_assigns (332, .iastore, 1) (List.mem_of_getElem? (i := 201) rfl)) (fun H locs hw => ?_)
      refine lv_iload_n hx hb (okX12_assigns (333, .iload_n 3, 1) (List.mem_of_getElem? (i := 202) rfl)) rfl (lv_at hl 3 rfl) ?_
      refine lv_iconst (v := iI 1) hx hb (okX12_assigns (334, .iconst 1, 1) (List.mem_of_getElem? (i := 203) rfl)) rfl ?_
      refine lv_iload hx hb (okX12_assigns (335, .iload 5, 2) (List.mem_of_getElem? (i := 204) rfl)) (lv_at hl 5 rfl) ?_
      refine sk_ishl hx hb (okX12_assigns (337, .ishl, 1) (List.mem_of_getElem? (i := 205) rfl)) ?_
      refine sk_ior hx hb (okX12_assigns (338, .ior, 1) (List.mem_of_getElem? (i := 206) rfl)) ?_
      refine sk_nm (fun v3_339 ev3_339 => ?_)
      have hM := hM v3_339 ev3_339
      have hr_v3_339 : rI v3_339 := by rw [ev3_339]; exact (rI_of _)
      refine lv_istore_n (lv' := [(3, .int (iI v3_339)), (0, .ref (sk_ad G 158)), (1, .int (iI v1)), (2, .int (iI v2)), (4, .int (iI v4)), (5, .int (iI v5))]) hx hb (okX12_assigns (339, .istore_n 3, 1) (List.mem_of_getElem? (i := 207) rfl)) rfl hl (by decide) rfl (fun ls hl => ?_)
      obtain ⟨hr42, hM⟩ := hM
      obtain ⟨v4_340, ev4_340⟩ : ∃ y : Int, y = v4 + 1 := ⟨_, rfl⟩
      have hM := hM v4_340 ev4_340
      have hr_v4_340 : rI v4_340 := by rw [ev4_340]; exact hr42
      refine lv_iinc (v := iI v4_340) (lv' := [(4, .int (iI v4_340)), (3, .int (iI v3_339)), (0, .ref (sk_ad G 158)), (1, .int (iI v1)), (2, .int (iI v2)), (5, .int (iI v5))]) hx hb (okX12_assigns (340, .iinc 4 1, 3) (List.mem_of_getElem? (i := 208) rfl)) hl (k := 4) rfl (by rw [ev4_340]; exact iI_add _ _) (by decide) rfl (fun ls hl => ?_)
      refine lv_goto (tgt := 257) hx hb (okX12_assigns (343, .goto (-86), 3) (List.mem_of_getElem? (i := 209) rfl)) (by decide) ?_
      exact (hX_257 v3_339 v4_340 (up I 180 v4 v5)).1 hM hr_v3_339 hr_v4_340 H locs ls hw (lv_sub hl [2, 3, 4, 1, 0] rfl)
    have hJ_266 : ∀ (v3 v4 v5 : Int) (I : sk_S), rI v3 → rI v4 → rI v5 → L_Mo_assigns_266 v1 v2 v3 v4 Q X_257 v5 I → ∀ (H : Heap) (locs : List Loc) (ls : Array Slot), sk_W G 198 sk_t I s H locs → lv_has ls 7 [(0, .ref (sk_ad G 158)), (1, .int (iI v1)), (2, .int (iI v2)), (3, .int (iI v3)), (4, .int (iI v4)), (5, .int (iI v5))] → W p l e (headSpec wsX12_assigns rmX12_assigns).room s m ([.ref (sk_ad G 158), .int (iI p1)].toArray) below meth c H locs 0 0 (MQ below (sk_Qi G 198 sk_t Q) ([.ref (sk_ad G 158), .int (iI p1)].toArray) s 0 0 (sk_A G)) (F0 m 266 ls []) := by
      intro v3 v4 v5 I hr_v3 hr_v4 hr_v5 hM H locs ls hw hl
      unfold L_Mo_assigns_266 at hM
      obtain ⟨X_266, hX_266⟩ : ∃ X : Int → sk_S → Prop, ∀ (v5 : Int) (I : sk_S), X v5 I ↔ (rI v5 → ∀ (H : Heap) (locs : List Loc) (ls : Array Slot), sk_W G 198 sk_t I s H locs → lv_has ls 7 [(0, .ref (sk_ad G 158)), (1, .int (iI v1)), (2, .int (iI v2)), (3, .int (iI v3)), (4, .int (iI v4)), (5, .int (iI v5))] → W p l e (headSpec wsX12_assigns rmX12_assigns).room s m ([.ref (sk_ad G 158), .int (iI p1)].toArray) below meth c H locs 0 0 (MQ below (sk_Qi G 198 sk_t Q) ([.ref (sk_ad G 158), .int (iI p1)].toArray) s 0 0 (sk_A G)) (F0 m 266 ls [])) := ⟨_, fun _ _ => Iff.rfl⟩
      have hJ_318 : ∀ (v5 : Int) (I : sk_S), rI v5 → J_Mo_assigns_318 v1 v2 v3 v4 v5 Q X_257 X_266 I → ∀ (H : Heap) (locs : List Loc) (ls : Array Slot), sk_W G 198 sk_t I s H locs → lv_has ls 7 [(0, .ref (sk_ad G 158)), (1, .int (iI v1)), (2, .int (iI v2)), (3, .int (iI v3)), (4, .int (iI v4)), (5, .int (iI v5))] → W p l e (headSpec wsX12_assigns rmX12_assigns).room s m ([.ref (sk_ad G 158), .int (iI p1)].toArray) below meth c H locs 0 0 (MQ below (sk_Qi G 198 sk_t Q) ([.ref (sk_ad G 158), .int (iI p1)].toArray) s 0 0 (sk_A G)) (F0 m 318 ls []) := by
        intro v5 I hr_v5 hM H locs ls hw hl
        unfold J_Mo_assigns_318 at hM
        obtain ⟨hr43, hM⟩ := hM
        obtain ⟨v5_318, ev5_318⟩ : ∃ y : Int, y = v5 + 1 := ⟨_, rfl⟩
        have hM := hM v5_318 ev5_318
        have hr_v5_318 : rI v5_318 := by rw [ev5_318]; exact hr43
        refine lv_iinc (v := iI v5_318) (lv' := [(5, .int (iI v5_318)), (0, .ref (sk_ad G 158)), (1, .int (iI v1)), (2, .int (iI v2)), (3, .int (iI v3)), (4, .int (iI v4))]) hx hb (okX12_assigns (318, .iinc 5 1, 3) (List.mem_of_getElem? (i := 195) rfl)) hl (k := 5) rfl (by rw [ev5_318]; exact iI_add _ _) (by decide) rfl (fun ls hl => ?_)
        refine lv_goto (tgt := 266) hx hb (okX12_assigns (321, .goto (-55), 3) (List.mem_of_getElem? (i := 196) rfl)) (by decide) ?_
        exact (hX_266 v5_318 I).1 hM hr_v5_318 H locs ls hw (lv_sub hl [1, 2, 3, 4, 5, 0] rfl)
      refine (hX_266 v5 I).1 (hM X_266 (fun v5 I hM => (hX_266 v5 I).2 (fun hr_v5 H locs ls hw hl => ?_))) hr_v5 H locs ls hw hl
      refine lv_iload_n hx hb (okX12_assigns (266, .iload_n 3, 1) (List.mem_of_getElem? (i := 162) rfl)) rfl (lv_at hl 3 rfl) ?_
      refine lv_iload hx hb (okX12_assigns (267, .iload 5, 2) (List.mem_of_getElem? (i := 163) rfl)) (lv_at hl 5 rfl) ?_
      refine sk_ishr hx hb (okX12_assigns (269, .ishr, 1) (List.mem_of_getElem? (i := 164) rfl)) ?_
      refine lv_iconst (v := iI 1) hx hb (okX12_assigns (270, .iconst 1, 1) (List.mem_of_getElem? (i := 165) rfl)) rfl ?_
      refine sk_iand hx hb (okX12_assigns (271, .iand, 1) (List.mem_of_getElem? (i := 166) rfl)) ?_
      refine lv_iconst (v := iI 1) hx hb (okX12_assigns (272, .iconst 1, 1) (List.mem_of_getElem? (i := 167) rfl)) rfl ?_
      refine sk_icmp_eq (tgt := 318) hx hb (rI_of _) (by decide) (okX12_assigns (273, .if_icmp .eq 45, 3) (List.mem_of_getElem? (i := 168) rfl)) (by decide) (fun c273 => ?_) (fun c273 => ?_)
      · have hM := hM.1 c273
        exact hJ_318 v5 I hr_v5 hM H locs ls hw (lv_sub hl [0, 1, 2, 3, 4, 5] rfl)
      · have hM := hM.2 c273
        refine lv_aload_n hx hb (okX12_assigns (276, .aload_n 0, 1) (List.mem_of_getElem? (i := 169) rfl)) rfl (lv_at hl 0 rfl) ?_
        refine sk_getr (b := 178) S hK hw kdn_158 (kd_in kdn_158) (C := RX12) (T := TX12) (N := 53) rfl hI12 28 ⟨by decide, rfl, by decide, rfl⟩ rfl (k' := 28) rfl rfl (by decide +kernel) hL1 (okX12_assigns (277, .getfield 71, 3) (List.mem_of_getElem? (i := 170) rfl)) ?_
        refine lv_bipush (v := iI 10) hx hb (okX12_assigns (280, .bipush 10, 2) (List.mem_of_getElem? (i := 171) rfl)) (by decide +kernel) ?_
        refine lv_iload hx hb (okX12_assigns (282, .iload 4, 2) (List.mem_of_getElem? (i := 172) rfl)) (lv_at hl 4 rfl) ?_
        refine sk_imul hx hb (okX12_assigns (284, .imul, 1) (List.mem_of_getElem? (i := 173) rfl)) ?_
        refine lv_iload hx hb (okX12_assigns (285, .iload 5, 2) (List.mem_of_getElem? (i := 174) rfl)) (lv_at hl 5 rfl) ?_
        refine sk_iadd hx hb (okX12_assigns (287, .iadd, 1) (List.mem_of_getElem? (i := 175) rfl)) ?_
        obtain ⟨hi33, hM⟩ := hM
        have hr34 := hw.1.2.2 178 ((10 * v4) + v5)
        refine sk_ild S hK hw kdn_178 (kd_in kdn_178) (by rw [lnn_178]; exact hi33) (okX12_assigns (288, .iaload, 1) (List.mem_of_getElem? (i := 176) rfl)) ?_
        refine lv_aload_n hx hb (okX12_assigns (289, .aload_n 0, 1) (List.mem_of_getElem? (i := 177) rfl)) rfl (lv_at hl 0 rfl) ?_
        refine sk_getr (b := 179) S hK hw kdn_158 (kd_in kdn_158) (C := RX12) (T := TX12) (N := 53) rfl hI12 29 ⟨by decide, rfl, by decide, rfl⟩ rfl (k' := 29) rfl rfl (by decide +kernel) hL8 (okX12_assigns (290, .getfield 74, 3) (List.mem_of_getElem? (i := 178) rfl)) ?_
        refine lv_iconst (v := iI 0) hx hb (okX12_assigns (293, .iconst 0, 1) (List.mem_of_getElem? (i := 179) rfl)) rfl ?_
        obtain ⟨hi35, hM⟩ := hM
        have hr36 := hw.1.2.2 179 0
        refine sk_ild S hK hw kdn_179 (kd_in kdn_179) (by rw [lnn_179]; exact hi35) (okX12_assigns (294, .iaload, 1) (List.mem_of_getElem? (i := 180) rfl)) ?_
        refine sk_icmp_gt (tgt := 318) hx hb hr34 hr36 (okX12_assigns (295, .if_icmp .gt 23, 3) (List.mem_of_getElem? (i := 181) rfl)) (by decide) (fun c295 => ?_) (fun c295 => ?_)
        · have hM := hM.1 c295
          exact hJ_318 v5 I hr_v5 hM H locs ls hw (lv_sub hl [0, 1, 2, 3, 4, 5] rfl)
        · have hM := hM.2 c295
          refine lv_aload_n hx hb (okX12_assigns (298, .aload_n 0, 1) (List.mem_of_getElem? (i := 182) rfl)) rfl (lv_at hl 0 rfl) ?_
          refine sk_getr (b := 179) S hK hw kdn_158 (kd_in kdn_158) (C := RX12) (T := TX12) (N := 53) rfl hI12 29 ⟨by decide, rfl, by decide, rfl⟩ rfl (k' := 29) rfl rfl (by decide +kernel) hL8 (okX12_assigns (299, .getfield 74, 3) (List.mem_of_getElem? (i := 183) rfl)) ?_
          refine lv_iload_n hx hb (okX12_assigns (302, .iload_n 3, 1) (List.mem_of_getElem? (i := 184) rfl)) rfl (lv_at hl 3 rfl) ?_
          refine lv_iconst (v := iI 1) hx hb (okX12_assigns (303, .iconst 1, 1) (List.mem_of_getElem? (i := 185) rfl)) rfl ?_
          refine lv_iload hx hb (okX12_assigns (304, .iload 5, 2) (List.mem_of_getElem? (i := 186) rfl)) (lv_at hl 5 rfl) ?_
          refine sk_ishl hx hb (okX12_assigns (306, .ishl, 1) (List.mem_of_getElem? (i := 187) rfl)) ?_
          refine sk_ior hx hb (okX12_assigns (307, .ior, 1) (List.mem_of_getElem? (i := 188) rfl)) ?_
          obtain ⟨hi37, hM⟩ := hM
          have hr38 := hw.1.2.2 179 (ior v3 (ishl 1 v5))
          refine sk_ild S hK hw kdn_179 (kd_in kdn_179) (by rw [lnn_179]; exact hi37) (okX12_assigns (308, .iaload, 1) (List.mem_of_getElem? (i := 189) rfl)) ?_
          refine lv_aload_n hx hb (okX12_assigns (309, .aload_n 0, 1) (List.mem_of_getElem? (i := 190) rfl)) rfl (lv_at hl 0 rfl) ?_
          refine sk_getr (b := 179) S hK hw kdn_158 (kd_in kdn_158) (C := RX12) (T := TX12) (N := 53) rfl hI12 29 ⟨by decide, rfl, by decide, rfl⟩ rfl (k' := 29) rfl rfl (by decide +kernel) hL8 (okX12_assigns (310, .getfield 74, 3) (List.mem_of_getElem? (i := 191) rfl)) ?_
          refine lv_iconst (v := iI 0) hx hb (okX12_assigns (313, .iconst 0, 1) (List.mem_of_getElem? (i := 192) rfl)) rfl ?_
          obtain ⟨hi39, hM⟩ := hM
          have hr40 := hw.1.2.2 179 0
          refine sk_ild S hK hw kdn_179 (kd_in kdn_179) (by rw [lnn_179]; exact hi39) (okX12_assigns (314, .iaload, 1) (List.mem_of_getElem? (i := 193) rfl)) ?_
          refine sk_icmp_le (tgt := 324) hx hb hr38 hr40 (okX12_assigns (315, .if_icmp .le 9, 3) (List.mem_of_getElem? (i := 194) rfl)) (by decide) (fun c315 => ?_) (fun c315 => ?_)
          · have hM := hM.1 c315
            exact hJ_324 v3 v4 v5 I hr_v3 hr_v4 hr_v5 hM H locs ls hw (lv_sub hl [0, 1, 2, 3, 4, 5] rfl)
          · have hM := hM.2 c315
            exact hJ_318 v5 I hr_v5 hM H locs ls hw (lv_sub hl [0, 1, 2, 3, 4, 5] rfl)
    refine (hX_257 v3 v4 I).1 (hM X_257 (fun v3 v4 I hM => (hX_257 v3 v4 I).2 (fun hr_v3 hr_v4 H locs ls hw hl => ?_))) hr_v3 hr_v4 H locs ls hw hl
    refine lv_iload hx hb (okX12_assigns (257, .iload 4, 2) (List.mem_of_getElem? (i := 157) rfl)) (lv_at hl 4 rfl) ?_
    refine lv_iload_n hx hb (okX12_assigns (259, .iload_n 2, 1) (List.mem_of_getElem? (i := 158) rfl)) rfl (lv_at hl 2 rfl) ?_
    refine sk_icmp_ge (tgt := 346) hx hb hr_v4 hr_v2 (okX12_assigns (260, .if_icmp .ge 86, 3) (List.mem_of_getElem? (i := 159) rfl)) (by decide) (fun c260 => ?_) (fun c260 => ?_)
    · have hM := hM.1 c260
      exact hJ_346 v1 v2 I hr_v1 hr_v2 hM H locs ls hw (lv_sub hl [0, 1, 2] rfl)
    · have hM := hM.2 c260
      refine lv_iconst (v := iI 0) hx hb (okX12_assigns (263, .iconst 0, 1) (List.mem_of_getElem? (i := 160) rfl)) rfl ?_
      refine lv_istore (lv' := [(5, .int (iI 0)), (0, .ref (sk_ad G 158)), (1, .int (iI v1)), (2, .int (iI v2)), (3, .int (iI v3)), (4, .int (iI v4))]) hx hb (okX12_assigns (264, .istore 5, 2) (List.mem_of_getElem? (i := 161) rfl)) hl (by decide) rfl (fun ls hl => ?_)
      exact hJ_266 v3 v4 0 I hr_v3 hr_v4 (by decide) hM H locs ls hw (lv_sub hl [1, 2, 3, 4, 5, 0] rfl)
  have hJ_252 : ∀ (v1 v2 : Int) (I : sk_S), rI v1 → rI v2 → J_Mo_assigns_252 v1 v2 Q I → ∀ (H : Heap) (locs : List Loc) (ls : Array Slot), sk_W G 198 sk_t I s H locs → lv_has ls 7 [(0, .ref (sk_ad G 158)), (1, .int (iI v1)), (2, .int (iI v2))] → W p l e (headSpec wsX12_assigns rmX12_assigns).room s m ([.ref (sk_ad G 158), .int (iI p1)].toArray) below meth c H locs 0 0 (MQ below (sk_Qi G 198 sk_t Q) ([.ref (sk_ad G 158), .int (iI p1)].toArray) s 0 0 (sk_A G)) (F0 m 252 ls []) := by
    intro v1 v2 I hr_v1 hr_v2 hM H locs ls hw hl
    unfold J_Mo_assigns_252 at hM
    refine lv_iconst (v := iI 0) hx hb (okX12_assigns (252, .iconst 0, 1) (List.mem_of_getElem? (i := 153) rfl)) rfl ?_
    refine lv_istore_n (lv' := [(3, .int (iI 0)), (0, .ref (sk_ad G 158)), (1, .int (iI v1)), (2, .int (iI v2))]) hx hb (okX12_assigns (253, .istore_n 3, 1) (List.mem_of_getElem? (i := 154) rfl)) rfl hl (by decide) rfl (fun ls hl => ?_)
    refine lv_iconst (v := iI 0) hx hb (okX12_assigns (254, .iconst 0, 1) (List.mem_of_getElem? (i := 155) rfl)) rfl ?_
    refine lv_istore (lv' := [(4, .int (iI 0)), (3, .int (iI 0)), (0, .ref (sk_ad G 158)), (1, .int (iI v1)), (2, .int (iI v2))]) hx hb (okX12_assigns (255, .istore 4, 2) (List.mem_of_getElem? (i := 156) rfl)) hl (by decide) rfl (fun ls hl => ?_)
    exact hJ_257 v1 v2 0 0 I hr_v1 hr_v2 (by decide) (by decide) hM H locs ls hw (lv_sub hl [2, 3, 4, 1, 0] rfl)
  have hJ_136 : ∀ (v1 v2 v3 : Int) (I : sk_S), rI v1 → rI v2 → rI v3 → L_Mo_assigns_136 v1 v2 Q v3 I → ∀ (H : Heap) (locs : List Loc) (ls : Array Slot), sk_W G 198 sk_t I s H locs → lv_has ls 7 [(0, .ref (sk_ad G 158)), (1, .int (iI v1)), (2, .int (iI v2)), (3, .int (iI v3))] → W p l e (headSpec wsX12_assigns rmX12_assigns).room s m ([.ref (sk_ad G 158), .int (iI p1)].toArray) below meth c H locs 0 0 (MQ below (sk_Qi G 198 sk_t Q) ([.ref (sk_ad G 158), .int (iI p1)].toArray) s 0 0 (sk_A G)) (F0 m 136 ls []) := by
    intro v1 v2 v3 I hr_v1 hr_v2 hr_v3 hM H locs ls hw hl
    unfold L_Mo_assigns_136 at hM
    obtain ⟨X_136, hX_136⟩ : ∃ X : Int → sk_S → Prop, ∀ (v3 : Int) (I : sk_S), X v3 I ↔ (rI v3 → ∀ (H : Heap) (locs : List Loc) (ls : Array Slot), sk_W G 198 sk_t I s H locs → lv_has ls 7 [(0, .ref (sk_ad G 158)), (1, .int (iI v1)), (2, .int (iI v2)), (3, .int (iI v3))] → W p l e (headSpec wsX12_assigns rmX12_assigns).room s m ([.ref (sk_ad G 158), .int (iI p1)].toArray) below meth c H locs 0 0 (MQ below (sk_Qi G 198 sk_t Q) ([.ref (sk_ad G 158), .int (iI p1)].toArray) s 0 0 (sk_A G)) (F0 m 136 ls [])) := ⟨_, fun _ _ => Iff.rfl⟩
    have hJ_246 : ∀ (v3 : Int) (I : sk_S), rI v3 → J_Mo_assigns_246 v1 v2 v3 Q X_136 I → ∀ (H : Heap) (locs : List Loc) (ls : Array Slot), sk_W G 198 sk_t I s H locs → lv_has ls 7 [(0, .ref (sk_ad G 158)), (1, .int (iI v1)), (2, .int (iI v2)), (3, .int (iI v3))] → W p l e (headSpec wsX12_assigns rmX12_assigns).room s m ([.ref (sk_ad G 158), .int (iI p1)].toArray) below meth c H locs 0 0 (MQ below (sk_Qi G 198 sk_t Q) ([.ref (sk_ad G 158), .int (iI p1)].toArray) s 0 0 (sk_A G)) (F0 m 246 ls []) := by
      intro v3 I hr_v3 hM H locs ls hw hl
      unfold J_Mo_assigns_246 at hM
      obtain ⟨hr32, hM⟩ := hM
      obtain ⟨v3_246, ev3_246⟩ : ∃ y : Int, y = v3 + (-1) := ⟨_, rfl⟩
      have hM := hM v3_246 ev3_246
      have hr_v3_246 : rI v3_246 := by rw [ev3_246]; exact hr32
      refine lv_iinc (v := iI v3_246) (lv' := [(3, .int (iI v3_246)), (0, .ref (sk_ad G 158)), (1, .int (iI v1)), (2, .int (iI v2))]) hx hb (okX12_assigns (246, .iinc 3 (-1), 3) (List.mem_of_getElem? (i := 151) rfl)) hl (k := 3) rfl (by rw [ev3_246]; exact iI_add _ _) (by decide) rfl (fun ls hl => ?_)
      refine lv_goto (tgt := 136) hx hb (okX12_assigns (249, .goto (-113), 3) (List.mem_of_getElem? (i := 152) rfl)) (by decide) ?_
      exact (hX_136 v3_246 I).1 hM hr_v3_246 H locs ls hw (lv_sub hl [1, 2, 3, 0] rfl)
    have hJ_167 : ∀ (v3 v4 v5 : Int) (I : sk_S), rI v3 → rI v4 → rI v5 → L_Mo_assigns_167 v1 v2 v3 v4 Q X_136 v5 I → ∀ (H : Heap) (locs : List Loc) (ls : Array Slot), sk_W G 198 sk_t I s H locs → lv_has ls 7 [(0, .ref (sk_ad G 158)), (1, .int (iI v1)), (2, .int (iI v2)), (3, .int (iI v3)), (4, .int (iI v4)), (5, .int (iI v5))] → W p l e (headSpec wsX12_assigns rmX12_assigns).room s m ([.ref (sk_ad G 158), .int (iI p1)].toArray) below meth c H locs 0 0 (MQ below (sk_Qi G 198 sk_t Q) ([.ref (sk_ad G 158), .int (iI p1)].toArray) s 0 0 (sk_A G)) (F0 m 167 ls []) := by
      intro v3 v4 v5 I hr_v3 hr_v4 hr_v5 hM H locs ls hw hl
      unfold L_Mo_assigns_167 at hM
      obtain ⟨X_167, hX_167⟩ : ∃ X : Int → sk_S → Prop, ∀ (v5 : Int) (I : sk_S), X v5 I ↔ (rI v5 → ∀ (H : Heap) (locs : List Loc) (ls : Array Slot), sk_W G 198 sk_t I s H locs → lv_has ls 7 [(0, .ref (sk_ad G 158)), (1, .int (iI v1)), (2, .int (iI v2)), (3, .int (iI v3)), (4, .int (iI v4)), (5, .int (iI v5))] → W p l e (headSpec wsX12_assigns rmX12_assigns).room s m ([.ref (sk_ad G 158), .int (iI p1)].toArray) below meth c H locs 0 0 (MQ below (sk_Qi G 198 sk_t Q) ([.ref (sk_ad G 158), .int (iI p1)].toArray) s 0 0 (sk_A G)) (F0 m 167 ls [])) := ⟨_, fun _ _ => Iff.rfl⟩
      have hJ_240 : ∀ (v5 : Int) (I : sk_S), rI v5 → J_Mo_assigns_240 v1 v2 v3 v4 v5 Q X_136 X_167 I → ∀ (H : Heap) (locs : List Loc) (ls : Array Slot), sk_W G 198 sk_t I s H locs → lv_has ls 7 [(0, .ref (sk_ad G 158)), (1, .int (iI v1)), (2, .int (iI v2)), (3, .int (iI v3)), (4, .int (iI v4)), (5, .int (iI v5))] → W p l e (headSpec wsX12_assigns rmX12_assigns).room s m ([.ref (sk_ad G 158), .int (iI p1)].toArray) below meth c H locs 0 0 (MQ below (sk_Qi G 198 sk_t Q) ([.ref (sk_ad G 158), .int (iI p1)].toArray) s 0 0 (sk_A G)) (F0 m 240 ls []) := by
        intro v5 I hr_v5 hM H locs ls hw hl
        unfold J_Mo_assigns_240 at hM
        obtain ⟨hr31, hM⟩ := hM
        obtain ⟨v5_240, ev5_240⟩ : ∃ y : Int, y = v5 + 1 := ⟨_, rfl⟩
        have hM := hM v5_240 ev5_240
        have hr_v5_240 : rI v5_240 := by rw [ev5_240]; exact hr31
        refine lv_iinc (v := iI v5_240) (lv' := [(5, .int (iI v5_240)), (0, .ref (sk_ad G 158)), (1, .int (iI v1)), (2, .int (iI v2)), (3, .int (iI v3)), (4, .int (iI v4))]) hx hb (okX12_assigns (240, .iinc 5 1, 3) (List.mem_of_getElem? (i := 149) rfl)) hl (k := 5) rfl (by rw [ev5_240]; exact iI_add _ _) (by decide) rfl (fun ls hl => ?_)
        refine lv_goto (tgt := 167) hx hb (okX12_assigns (243, .goto (-76), 3) (List.mem_of_getElem? (i := 150) rfl)) (by decide) ?_
        exact (hX_167 v5_240 I).1 hM hr_v5_240 H locs ls hw (lv_sub hl [1, 2, 3, 4, 5, 0] rfl)
      refine (hX_167 v5 I).1 (hM X_167 (fun v5 I hM => (hX_167 v5 I).2 (fun hr_v5 H locs ls hw hl => ?_))) hr_v5 H locs ls hw hl
      refine lv_iload hx hb (okX12_assigns (167, .iload 5, 2) (List.mem_of_getElem? (i := 106) rfl)) (lv_at hl 5 rfl) ?_
      refine lv_iload_n hx hb (okX12_assigns (169, .iload_n 2, 1) (List.mem_of_getElem? (i := 107) rfl)) rfl (lv_at hl 2 rfl) ?_
      refine sk_icmp_ge (tgt := 246) hx hb hr_v5 hr_v2 (okX12_assigns (170, .if_icmp .ge 76, 3) (List.mem_of_getElem? (i := 108) rfl)) (by decide) (fun c170 => ?_) (fun c170 => ?_)
      · have hM := hM.1 c170
        exact hJ_246 v3 I hr_v3 hM H locs ls hw (lv_sub hl [0, 1, 2, 3] rfl)
      · have hM := hM.2 c170
        refine lv_iload hx hb (okX12_assigns (173, .iload 4, 2) (List.mem_of_getElem? (i := 109) rfl)) (lv_at hl 4 rfl) ?_
        refine lv_iload_n hx hb (okX12_assigns (175, .iload_n 2, 1) (List.mem_of_getElem? (i := 110) rfl)) rfl (lv_at hl 2 rfl) ?_
        refine sk_icmp_ge (tgt := 246) hx hb hr_v4 hr_v2 (okX12_assigns (176, .if_icmp .ge 70, 3) (List.mem_of_getElem? (i := 111) rfl)) (by decide) (fun c176 => ?_) (fun c176 => ?_)
        · have hM := hM.1 c176
          exact hJ_246 v3 I hr_v3 hM H locs ls hw (lv_sub hl [0, 1, 2, 3] rfl)
        · have hM := hM.2 c176
          refine lv_iload_n hx hb (okX12_assigns (179, .iload_n 3, 1) (List.mem_of_getElem? (i := 112) rfl)) rfl (lv_at hl 3 rfl) ?_
          refine lv_iload hx hb (okX12_assigns (180, .iload 5, 2) (List.mem_of_getElem? (i := 113) rfl)) (lv_at hl 5 rfl) ?_
          refine sk_ishr hx hb (okX12_assigns (182, .ishr, 1) (List.mem_of_getElem? (i := 114) rfl)) ?_
          refine lv_iconst (v := iI 1) hx hb (okX12_assigns (183, .iconst 1, 1) (List.mem_of_getElem? (i := 115) rfl)) rfl ?_
          refine sk_iand hx hb (okX12_assigns (184, .iand, 1) (List.mem_of_getElem? (i := 116) rfl)) ?_
          refine lv_iconst (v := iI 1) hx hb (okX12_assigns (185, .iconst 1, 1) (List.mem_of_getElem? (i := 117) rfl)) rfl ?_
          refine sk_icmp_ne (tgt := 192) hx hb (rI_of _) (by decide) (okX12_assigns (186, .if_icmp .ne 6, 3) (List.mem_of_getElem? (i := 118) rfl)) (by decide) (fun c186 => ?_) (fun c186 => ?_)
          · have hM := hM.1 c186
            refine lv_aload_n hx hb (okX12_assigns (192, .aload_n 0, 1) (List.mem_of_getElem? (i := 120) rfl)) rfl (lv_at hl 0 rfl) ?_
            refine sk_getr (b := 178) S hK hw kdn_158 (kd_in kdn_158) (C := RX12) (T := TX12) (N := 53) rfl hI12 28 ⟨by decide, rfl, by decide, rfl⟩ rfl (k' := 28) rfl rfl (by decide +kernel) hL1 (okX12_assigns (193, .getfield 71, 3) (List.mem_of_getElem? (i := 121) rfl)) ?_
            refine lv_bipush (v := iI 10) hx hb (okX12_assigns (196, .bipush 10, 2) (List.mem_of_getElem? (i := 122) rfl)) (by decide +kernel) ?_
            refine lv_iload hx hb (okX12_assigns (198, .iload 4, 2) (List.mem_of_getElem? (i := 123) rfl)) (lv_at hl 4 rfl) ?_
            refine sk_imul hx hb (okX12_assigns (200, .imul, 1) (List.mem_of_getElem? (i := 124) rfl)) ?_
            refine lv_iload hx hb (okX12_assigns (201, .iload 5, 2) (List.mem_of_getElem? (i := 125) rfl)) (lv_at hl 5 rfl) ?_
            refine sk_iadd hx hb (okX12_assigns (203, .iadd, 1) (List.mem_of_getElem? (i := 126) rfl)) ?_
            obtain ⟨hi24, hM⟩ := hM
            have hr25 := hw.1.2.2 178 ((10 * v4) + v5)
            refine sk_ild S hK hw kdn_178 (kd_in kdn_178) (by rw [lnn_178]; exact hi24) (okX12_assigns (204, .iaload, 1) (List.mem_of_getElem? (i := 127) rfl)) ?_
            refine lv_aload_n hx hb (okX12_assigns (205, .aload_n 0, 1) (List.mem_of_getElem? (i := 128) rfl)) rfl (lv_at hl 0 rfl) ?_
            refine sk_getr (b := 179) S hK hw kdn_158 (kd_in kdn_158) (C := RX12) (T := TX12) (N := 53) rfl hI12 29 ⟨by decide, rfl, by decide, rfl⟩ rfl (k' := 29) rfl rfl (by decide +kernel) hL8 (okX12_assigns (206, .getfield 74, 3) (List.mem_of_getElem? (i := 129) rfl)) ?_
            refine lv_iload_n hx hb (okX12_assigns (209, .iload_n 3, 1) (List.mem_of_getElem? (i := 130) rfl)) rfl (lv_at hl 3 rfl) ?_
            refine lv_iconst (v := iI 1) hx hb (okX12_assigns (210, .iconst 1, 1) (List.mem_of_getElem? (i := 131) rfl)) rfl ?_
            refine lv_iload hx hb (okX12_assigns (211, .iload 5, 2) (List.mem_of_getElem? (i := 132) rfl)) (lv_at hl 5 rfl) ?_
            refine sk_ishl hx hb (okX12_assigns (213, .ishl, 1) (List.mem_of_getElem? (i := 133) rfl)) ?_
            refine sk_ior hx hb (okX12_assigns (214, .ior, 1) (List.mem_of_getElem? (i := 134) rfl)) ?_
            obtain ⟨hi26, hM⟩ := hM
            have hr27 := hw.1.2.2 179 (ior v3 (ishl 1 v5))
            refine sk_ild S hK hw kdn_179 (kd_in kdn_179) (by rw [lnn_179]; exact hi26) (okX12_assigns (215, .iaload, 1) (List.mem_of_getElem? (i := 135) rfl)) ?_
            refine sk_ci (sk_runS (As := [.int (iI (I 178 ((10 * v4) + v5))), .int (iI (I 179 (ior v3 (ishl 1 v5))))]) (rest := []) S (c_Mo_greater l G hr25 hr27 hM) sk_blind gX12_assigns_X12_greater rfl hdX12_greater ⟨⟨rfl, rfl⟩, Nat.le_of_ble_eq_true rfl, Nat.le_of_ble_eq_true rfl⟩ (sk_pre hK hw) rfl hl.1 rfl (Nat.le_of_ble_eq_true rfl) (okX12_assigns (216, .invokestatic 248, 3) (List.mem_of_getElem? (i := 136) rfl)) ⟨Nat.zero_le _, Nat.zero_le _⟩) hw (fun r_216 I_216 H locs hr_r_216 hM hw => ?_)
            refine lv_istore (lv' := [(6, .int (iI r_216)), (0, .ref (sk_ad G 158)), (1, .int (iI v1)), (2, .int (iI v2)), (3, .int (iI v3)), (4, .int (iI v4)), (5, .int (iI v5))]) hx hb (okX12_assigns (219, .istore 6, 2) (List.mem_of_getElem? (i := 137) rfl)) hl (by decide) rfl (fun ls hl => ?_)
            refine lv_iload hx hb (okX12_assigns (221, .iload 6, 2) (List.mem_of_getElem? (i := 138) rfl)) (lv_at hl 0 rfl) ?_
            refine lv_aload_n hx hb (okX12_assigns (223, .aload_n 0, 1) (List.mem_of_getElem? (i := 139) rfl)) rfl (lv_at hl 1 rfl) ?_
            refine sk_getr (b := 179) S hK hw kdn_158 (kd_in kdn_158) (C := RX12) (T := TX12) (N := 53) rfl hI12 29 ⟨by decide, rfl, by decide, rfl⟩ rfl (k' := 29) rfl rfl (by decide +kernel) hL8 (okX12_assigns (224, .getfield 74, 3) (List.mem_of_getElem? (i := 140) rfl)) ?_
            refine lv_iload_n hx hb (okX12_assigns (227, .iload_n 3, 1) (List.mem_of_getElem? (i := 141) rfl)) rfl (lv_at hl 4 rfl) ?_
            obtain ⟨hi28, hM⟩ := hM
            have hr29 := hw.1.2.2 179 v3
            refine sk_ild S hK hw kdn_179 (kd_in kdn_179) (by rw [lnn_179]; exact hi28) (okX12_assigns (228, .iaload, 1) (List.mem_of_getElem? (i := 142) rfl)) ?_
            refine sk_icmp_ge (tgt := 240) hx hb hr_r_216 hr29 (okX12_assigns (229, .if_icmp .ge 11, 3) (List.mem_of_getElem? (i := 143) rfl)) (by decide) (fun c229 => ?_) (fun c229 => ?_)
            · have hM := hM.1 c229
              exact hJ_240 v5 I_216 hr_v5 hM H locs ls hw (lv_sub hl [1, 2, 3, 4, 5, 6] rfl)
            · have hM := hM.2 c229
              refine lv_aload_n hx hb (okX12_assigns (232, .aload_n 0, 1) (List.mem_of_getElem? (i := 144) rfl)) rfl (lv_at hl 1 rfl) ?_
              refine sk_getr (b := 179) S hK hw kdn_158 (kd_in kdn_158) (C := RX12) (T := TX12) (N := 53) rfl hI12 29 ⟨by decide, rfl, by decide, rfl⟩ rfl (k' := 29) rfl rfl (by decide +kernel) hL8 (okX12_assigns (233, .getfield 74, 3) (List.mem_of_getElem? (i := 145) rfl)) ?_
              refine lv_iload_n hx hb (okX12_assigns (236, .iload_n 3, 1) (List.mem_of_getElem? (i := 146) rfl)) rfl (lv_at hl 4 rfl) ?_
              refine lv_iload hx hb (okX12_assigns (237, .iload 6, 2) (List.mem_of_getElem? (i := 147) rfl)) (lv_at hl 0 rfl) ?_
              obtain ⟨hi30, hM⟩ := hM
              refine sk_ist S hK hw kdn_179 (kd_in kdn_179) (by rw [lnn_179]; exact hi30) hr_r_216 (okX12_assigns (239, .iastore, 1) (List.mem_of_getElem? (i := 148) rfl)) (fun H locs hw => ?_)
              exact hJ_240 v5 (up I_216 179 v3 r_216) hr_v5 hM H locs ls hw (lv_sub hl [1, 2, 3, 4, 5, 6] rfl)
          · have hM := hM.2 c186
            refine lv_goto (tgt := 240) hx hb (okX12_assigns (189, .goto 51, 3) (List.mem_of_getElem? (i := 119) rfl)) (by decide) ?_
            exact hJ_240 v5 I hr_v5 hM H locs ls hw (lv_sub hl [0, 1, 2, 3, 4, 5] rfl)
    have hJ_163 : ∀ (v3 v4 s1 s2 : Int) (I : sk_S), rI v3 → rI v4 → rI s1 → rI s2 → J_Mo_assigns_163 v1 v2 v3 v4 s1 s2 Q X_136 I → ∀ (H : Heap) (locs : List Loc) (ls : Array Slot), sk_W G 198 sk_t I s H locs → lv_has ls 7 [(0, .ref (sk_ad G 158)), (1, .int (iI v1)), (2, .int (iI v2)), (3, .int (iI v3)), (4, .int (iI v4))] → W p l e (headSpec wsX12_assigns rmX12_assigns).room s m ([.ref (sk_ad G 158), .int (iI p1)].toArray) below meth c H locs 0 0 (MQ below (sk_Qi G 198 sk_t Q) ([.ref (sk_ad G 158), .int (iI p1)].toArray) s 0 0 (sk_A G)) (F0 m 163 ls [.int (iI s2), .int (iI s1), .ref (sk_ad G 179)]) := by
      intro v3 v4 s1 s2 I hr_v3 hr_v4 hr_s1 hr_s2 hM H locs ls hw hl
      unfold J_Mo_assigns_163 at hM
      obtain ⟨hi23, hM⟩ := hM
      refine sk_ist S hK hw kdn_179 (kd_in kdn_179) (by rw [lnn_179]; exact hi23) hr_s2 (okX12_assigns (163, .iastore, 1) (List.mem_of_getElem? (i := 103) rfl)) (fun H locs hw => ?_)
      refine lv_iconst (v := iI 0) hx hb (okX12_assigns (164, .iconst 0, 1) (List.mem_of_getElem? (i := 104) rfl)) rfl ?_
      refine lv_istore (lv' := [(5, .int (iI 0)), (0, .ref (sk_ad G 158)), (1, .int (iI v1)), (2, .int (iI v2)), (3, .int (iI v3)), (4, .int (iI v4))]) hx hb (okX12_assigns (165, .istore 5, 2) (List.mem_of_getElem? (i := 105) rfl)) hl (by decide) rfl (fun ls hl => ?_)
      exact hJ_167 v3 v4 0 (up I 179 s1 s2) hr_v3 hr_v4 (by decide) hM H locs ls hw (lv_sub hl [1, 2, 3, 4, 5, 0] rfl)
    refine (hX_136 v3 I).1 (hM X_136 (fun v3 I hM => (hX_136 v3 I).2 (fun hr_v3 H locs ls hw hl => ?_))) hr_v3 H locs ls hw hl
    refine lv_iload_n hx hb (okX12_assigns (136, .iload_n 3, 1) (List.mem_of_getElem? (i := 89) rfl)) rfl (lv_at hl 3 rfl) ?_
    refine sk_if_lt (tgt := 252) hx hb hr_v3 (okX12_assigns (137, .ifCond .lt 115, 3) (List.mem_of_getElem? (i := 90) rfl)) (by decide) (fun c137 => ?_) (fun c137 => ?_)
    · have hM := hM.1 c137
      exact hJ_252 v1 v2 I hr_v1 hr_v2 hM H locs ls hw (lv_sub hl [0, 1, 2] rfl)
    · have hM := hM.2 c137
      refine lv_iload_n hx hb (okX12_assigns (140, .iload_n 3, 1) (List.mem_of_getElem? (i := 91) rfl)) rfl (lv_at hl 3 rfl) ?_
      refine sk_ci (sk_runS (As := [.int (iI v3)]) (rest := []) S (c_Mo_bits l G hr_v3 hM) sk_blind gX12_assigns_X12_bits rfl hdX12_bits ⟨⟨rfl, rfl⟩, Nat.le_of_ble_eq_true rfl, Nat.le_of_ble_eq_true rfl⟩ (sk_pre hK hw) rfl hl.1 rfl (Nat.le_of_ble_eq_true rfl) (okX12_assigns (141, .invokestatic 244, 3) (List.mem_of_getElem? (i := 92) rfl)) ⟨Nat.zero_le _, Nat.zero_le _⟩) hw (fun r_141 I_141 H locs hr_r_141 hM hw => ?_)
      refine lv_istore (lv' := [(4, .int (iI r_141)), (0, .ref (sk_ad G 158)), (1, .int (iI v1)), (2, .int (iI v2)), (3, .int (iI v3))]) hx hb (okX12_assigns (144, .istore 4, 2) (List.mem_of_getElem? (i := 93) rfl)) hl (by decide) rfl (fun ls hl => ?_)
      refine lv_aload_n hx hb (okX12_assigns (146, .aload_n 0, 1) (List.mem_of_getElem? (i := 94) rfl)) rfl (lv_at hl 1 rfl) ?_
      refine sk_getr (b := 179) S hK hw kdn_158 (kd_in kdn_158) (C := RX12) (T := TX12) (N := 53) rfl hI12 29 ⟨by decide, rfl, by decide, rfl⟩ rfl (k' := 29) rfl rfl (by decide +kernel) hL8 (okX12_assigns (147, .getfield 74, 3) (List.mem_of_getElem? (i := 95) rfl)) ?_
      refine lv_iload_n hx hb (okX12_assigns (150, .iload_n 3, 1) (List.mem_of_getElem? (i := 96) rfl)) rfl (lv_at hl 4 rfl) ?_
      refine lv_iload hx hb (okX12_assigns (151, .iload 4, 2) (List.mem_of_getElem? (i := 97) rfl)) (lv_at hl 0 rfl) ?_
      refine lv_iload_n hx hb (okX12_assigns (153, .iload_n 2, 1) (List.mem_of_getElem? (i := 98) rfl)) rfl (lv_at hl 3 rfl) ?_
      refine sk_icmp_ne (tgt := 161) hx hb hr_r_141 hr_v2 (okX12_assigns (154, .if_icmp .ne 7, 3) (List.mem_of_getElem? (i := 99) rfl)) (by decide) (fun c154 => ?_) (fun c154 => ?_)
      · have hM := hM.1 c154
        refine lv_ldc (v := iI 1000000000) hx hb hown (by rw [show iI 1000000000 = (1000000000 : Int32) from by decide +kernel]; exact hL9) (okX12_assigns (161, .ldc 247, 2) (List.mem_of_getElem? (i := 102) rfl)) ?_
        exact hJ_163 v3 r_141 v3 1000000000 I_141 hr_v3 hr_r_141 hr_v3 (by decide) hM H locs ls hw (lv_sub hl [1, 2, 3, 4, 0] rfl)
      · have hM := hM.2 c154
        refine lv_iconst (v := iI 0) hx hb (okX12_assigns (157, .iconst 0, 1) (List.mem_of_getElem? (i := 100) rfl)) rfl ?_
        refine lv_goto (tgt := 163) hx hb (okX12_assigns (158, .goto 5, 3) (List.mem_of_getElem? (i := 101) rfl)) (by decide) ?_
        exact hJ_163 v3 r_141 v3 0 I_141 hr_v3 hr_r_141 hr_v3 (by decide) hM H locs ls hw (lv_sub hl [1, 2, 3, 4, 0] rfl)
  have hJ_130 : ∀ (v1 v2 : Int) (I : sk_S), rI v1 → rI v2 → J_Mo_assigns_130 v1 v2 Q I → ∀ (H : Heap) (locs : List Loc) (ls : Array Slot), sk_W G 198 sk_t I s H locs → lv_has ls 7 [(0, .ref (sk_ad G 158)), (1, .int (iI v1)), (2, .int (iI v2))] → W p l e (headSpec wsX12_assigns rmX12_assigns).room s m ([.ref (sk_ad G 158), .int (iI p1)].toArray) below meth c H locs 0 0 (MQ below (sk_Qi G 198 sk_t Q) ([.ref (sk_ad G 158), .int (iI p1)].toArray) s 0 0 (sk_A G)) (F0 m 130 ls []) := by
    intro v1 v2 I hr_v1 hr_v2 hM H locs ls hw hl
    unfold J_Mo_assigns_130 at hM
    refine lv_iconst (v := iI 1) hx hb (okX12_assigns (130, .iconst 1, 1) (List.mem_of_getElem? (i := 83) rfl)) rfl ?_
    refine lv_iload_n hx hb (okX12_assigns (131, .iload_n 2, 1) (List.mem_of_getElem? (i := 84) rfl)) rfl (lv_at hl 2 rfl) ?_
    refine sk_ishl hx hb (okX12_assigns (132, .ishl, 1) (List.mem_of_getElem? (i := 85) rfl)) ?_
    refine lv_iconst (v := iI 1) hx hb (okX12_assigns (133, .iconst 1, 1) (List.mem_of_getElem? (i := 86) rfl)) rfl ?_
    refine sk_isub hx hb (okX12_assigns (134, .isub, 1) (List.mem_of_getElem? (i := 87) rfl)) ?_
    obtain ⟨hr22, hM⟩ := hM
    refine sk_nm (fun v3_135 ev3_135 => ?_)
    have hM := hM v3_135 ev3_135
    have hr_v3_135 : rI v3_135 := by rw [ev3_135]; exact hr22
    refine lv_istore_n (lv' := [(3, .int (iI v3_135)), (0, .ref (sk_ad G 158)), (1, .int (iI v1)), (2, .int (iI v2))]) hx hb (okX12_assigns (135, .istore_n 3, 1) (List.mem_of_getElem? (i := 88) rfl)) rfl hl (by decide) rfl (fun ls hl => ?_)
    exact hJ_136 v1 v2 v3_135 I hr_v1 hr_v2 hr_v3_135 hM H locs ls hw (lv_sub hl [1, 2, 3, 0] rfl)
  have hJ_9 : ∀ (v1 v2 v3 : Int) (I : sk_S), rI v1 → rI v2 → rI v3 → L_Mo_assigns_9 v1 v2 Q v3 I → ∀ (H : Heap) (locs : List Loc) (ls : Array Slot), sk_W G 198 sk_t I s H locs → lv_has ls 7 [(0, .ref (sk_ad G 158)), (1, .int (iI v1)), (2, .int (iI v2)), (3, .int (iI v3))] → W p l e (headSpec wsX12_assigns rmX12_assigns).room s m ([.ref (sk_ad G 158), .int (iI p1)].toArray) below meth c H locs 0 0 (MQ below (sk_Qi G 198 sk_t Q) ([.ref (sk_ad G 158), .int (iI p1)].toArray) s 0 0 (sk_A G)) (F0 m 9 ls []) := by
    intro v1 v2 v3 I hr_v1 hr_v2 hr_v3 hM H locs ls hw hl
    unfold L_Mo_assigns_9 at hM
    obtain ⟨X_9, hX_9⟩ : ∃ X : Int → sk_S → Prop, ∀ (v3 : Int) (I : sk_S), X v3 I ↔ (rI v3 → ∀ (H : Heap) (locs : List Loc) (ls : Array Slot), sk_W G 198 sk_t I s H locs → lv_has ls 7 [(0, .ref (sk_ad G 158)), (1, .int (iI v1)), (2, .int (iI v2)), (3, .int (iI v3))] → W p l e (headSpec wsX12_assigns rmX12_assigns).room s m ([.ref (sk_ad G 158), .int (iI p1)].toArray) below meth c H locs 0 0 (MQ below (sk_Qi G 198 sk_t Q) ([.ref (sk_ad G 158), .int (iI p1)].toArray) s 0 0 (sk_A G)) (F0 m 9 ls [])) := ⟨_, fun _ _ => Iff.rfl⟩
    have hJ_124 : ∀ (v3 : Int) (I : sk_S), rI v3 → J_Mo_assigns_124 v1 v2 v3 Q X_9 I → ∀ (H : Heap) (locs : List Loc) (ls : Array Slot), sk_W G 198 sk_t I s H locs → lv_has ls 7 [(0, .ref (sk_ad G 158)), (1, .int (iI v1)), (2, .int (iI v2)), (3, .int (iI v3))] → W p l e (headSpec wsX12_assigns rmX12_assigns).room s m ([.ref (sk_ad G 158), .int (iI p1)].toArray) below meth c H locs 0 0 (MQ below (sk_Qi G 198 sk_t Q) ([.ref (sk_ad G 158), .int (iI p1)].toArray) s 0 0 (sk_A G)) (F0 m 124 ls []) := by
      intro v3 I hr_v3 hM H locs ls hw hl
      unfold J_Mo_assigns_124 at hM
      obtain ⟨hr21, hM⟩ := hM
      obtain ⟨v3_124, ev3_124⟩ : ∃ y : Int, y = v3 + 1 := ⟨_, rfl⟩
      have hM := hM v3_124 ev3_124
      have hr_v3_124 : rI v3_124 := by rw [ev3_124]; exact hr21
      refine lv_iinc (v := iI v3_124) (lv' := [(3, .int (iI v3_124)), (0, .ref (sk_ad G 158)), (1, .int (iI v1)), (2, .int (iI v2))]) hx hb (okX12_assigns (124, .iinc 3 1, 3) (List.mem_of_getElem? (i := 81) rfl)) hl (k := 3) rfl (by rw [ev3_124]; exact iI_add _ _) (by decide) rfl (fun ls hl => ?_)
      refine lv_goto (tgt := 9) hx hb (okX12_assigns (127, .goto (-118), 3) (List.mem_of_getElem? (i := 82) rfl)) (by decide) ?_
      exact (hX_9 v3_124 I).1 hM hr_v3_124 H locs ls hw (lv_sub hl [1, 2, 3, 0] rfl)
    have hJ_17 : ∀ (v3 v4 : Int) (I : sk_S), rI v3 → rI v4 → L_Mo_assigns_17 v1 v2 v3 Q X_9 v4 I → ∀ (H : Heap) (locs : List Loc) (ls : Array Slot), sk_W G 198 sk_t I s H locs → lv_has ls 7 [(0, .ref (sk_ad G 158)), (1, .int (iI v1)), (2, .int (iI v2)), (3, .int (iI v3)), (4, .int (iI v4))] → W p l e (headSpec wsX12_assigns rmX12_assigns).room s m ([.ref (sk_ad G 158), .int (iI p1)].toArray) below meth c H locs 0 0 (MQ below (sk_Qi G 198 sk_t Q) ([.ref (sk_ad G 158), .int (iI p1)].toArray) s 0 0 (sk_A G)) (F0 m 17 ls []) := by
      intro v3 v4 I hr_v3 hr_v4 hM H locs ls hw hl
      unfold L_Mo_assigns_17 at hM
      obtain ⟨X_17, hX_17⟩ : ∃ X : Int → sk_S → Prop, ∀ (v4 : Int) (I : sk_S), X v4 I ↔ (rI v4 → ∀ (H : Heap) (locs : List Loc) (ls : Array Slot), sk_W G 198 sk_t I s H locs → lv_has ls 7 [(0, .ref (sk_ad G 158)), (1, .int (iI v1)), (2, .int (iI v2)), (3, .int (iI v3)), (4, .int (iI v4))] → W p l e (headSpec wsX12_assigns rmX12_assigns).room s m ([.ref (sk_ad G 158), .int (iI p1)].toArray) below meth c H locs 0 0 (MQ below (sk_Qi G 198 sk_t Q) ([.ref (sk_ad G 158), .int (iI p1)].toArray) s 0 0 (sk_A G)) (F0 m 17 ls [])) := ⟨_, fun _ _ => Iff.rfl⟩
      refine (hX_17 v4 I).1 (hM X_17 (fun v4 I hM => (hX_17 v4 I).2 (fun hr_v4 H locs ls hw hl => ?_))) hr_v4 H locs ls hw hl
      refine lv_iload hx hb (okX12_assigns (17, .iload 4, 2) (List.mem_of_getElem? (i := 12) rfl)) (lv_at hl 4 rfl) ?_
      refine lv_iload_n hx hb (okX12_assigns (19, .iload_n 2, 1) (List.mem_of_getElem? (i := 13) rfl)) rfl (lv_at hl 2 rfl) ?_
      refine sk_icmp_ge (tgt := 124) hx hb hr_v4 hr_v2 (okX12_assigns (20, .if_icmp .ge 104, 3) (List.mem_of_getElem? (i := 14) rfl)) (by decide) (fun c20 => ?_) (fun c20 => ?_)
      · have hM := hM.1 c20
        exact hJ_124 v3 I hr_v3 hM H locs ls hw (lv_sub hl [0, 1, 2, 3] rfl)
      · have hM := hM.2 c20
        refine lv_aload_n hx hb (okX12_assigns (23, .aload_n 0, 1) (List.mem_of_getElem? (i := 15) rfl)) rfl (lv_at hl 0 rfl) ?_
        refine sk_getr (b := 178) S hK hw kdn_158 (kd_in kdn_158) (C := RX12) (T := TX12) (N := 53) rfl hI12 28 ⟨by decide, rfl, by decide, rfl⟩ rfl (k' := 28) rfl rfl (by decide +kernel) hL1 (okX12_assigns (24, .getfield 71, 3) (List.mem_of_getElem? (i := 16) rfl)) ?_
        refine lv_bipush (v := iI 10) hx hb (okX12_assigns (27, .bipush 10, 2) (List.mem_of_getElem? (i := 17) rfl)) (by decide +kernel) ?_
        refine lv_iload_n hx hb (okX12_assigns (29, .iload_n 3, 1) (List.mem_of_getElem? (i := 18) rfl)) rfl (lv_at hl 3 rfl) ?_
        refine sk_imul hx hb (okX12_assigns (30, .imul, 1) (List.mem_of_getElem? (i := 19) rfl)) ?_
        refine lv_iload hx hb (okX12_assigns (31, .iload 4, 2) (List.mem_of_getElem? (i := 20) rfl)) (lv_at hl 4 rfl) ?_
        refine sk_iadd hx hb (okX12_assigns (33, .iadd, 1) (List.mem_of_getElem? (i := 21) rfl)) ?_
        refine lv_aload_n hx hb (okX12_assigns (34, .aload_n 0, 1) (List.mem_of_getElem? (i := 22) rfl)) rfl (lv_at hl 0 rfl) ?_
        refine sk_getr (b := 168) S hK hw kdn_158 (kd_in kdn_158) (C := RX12) (T := TX12) (N := 53) rfl hI12 18 ⟨by decide, rfl, by decide, rfl⟩ rfl (k' := 18) rfl rfl (by decide +kernel) hL2 (okX12_assigns (35, .getfield 41, 3) (List.mem_of_getElem? (i := 23) rfl)) ?_
        refine lv_bipush (v := iI 10) hx hb (okX12_assigns (38, .bipush 10, 2) (List.mem_of_getElem? (i := 24) rfl)) (by decide +kernel) ?_
        refine lv_iload_n hx hb (okX12_assigns (40, .iload_n 1, 1) (List.mem_of_getElem? (i := 25) rfl)) rfl (lv_at hl 1 rfl) ?_
        refine sk_imul hx hb (okX12_assigns (41, .imul, 1) (List.mem_of_getElem? (i := 26) rfl)) ?_
        refine lv_iload_n hx hb (okX12_assigns (42, .iload_n 3, 1) (List.mem_of_getElem? (i := 27) rfl)) rfl (lv_at hl 3 rfl) ?_
        refine sk_iadd hx hb (okX12_assigns (43, .iadd, 1) (List.mem_of_getElem? (i := 28) rfl)) ?_
        obtain ⟨hi3, hM⟩ := hM
        have hr4 := hw.1.2.2 168 ((10 * v1) + v3)
        refine sk_ild S hK hw kdn_168 (kd_in kdn_168) (by rw [lnn_168]; exact hi3) (okX12_assigns (44, .iaload, 1) (List.mem_of_getElem? (i := 29) rfl)) ?_
        refine lv_aload_n hx hb (okX12_assigns (45, .aload_n 0, 1) (List.mem_of_getElem? (i := 30) rfl)) rfl (lv_at hl 0 rfl) ?_
        refine sk_getr (b := 171) S hK hw kdn_158 (kd_in kdn_158) (C := RX12) (T := TX12) (N := 53) rfl hI12 21 ⟨by decide, rfl, by decide, rfl⟩ rfl (k' := 21) rfl rfl (by decide +kernel) hL3 (okX12_assigns (46, .getfield 50, 3) (List.mem_of_getElem? (i := 31) rfl)) ?_
        refine lv_bipush (v := iI 10) hx hb (okX12_assigns (49, .bipush 10, 2) (List.mem_of_getElem? (i := 32) rfl)) (by decide +kernel) ?_
        refine lv_iload_n hx hb (okX12_assigns (51, .iload_n 1, 1) (List.mem_of_getElem? (i := 33) rfl)) rfl (lv_at hl 1 rfl) ?_
        refine sk_imul hx hb (okX12_assigns (52, .imul, 1) (List.mem_of_getElem? (i := 34) rfl)) ?_
        refine lv_iload hx hb (okX12_assigns (53, .iload 4, 2) (List.mem_of_getElem? (i := 35) rfl)) (lv_at hl 4 rfl) ?_
        refine sk_iadd hx hb (okX12_assigns (55, .iadd, 1) (List.mem_of_getElem? (i := 36) rfl)) ?_
        obtain ⟨hi5, hM⟩ := hM
        have hr6 := hw.1.2.2 171 ((10 * v1) + v4)
        refine sk_ild S hK hw kdn_171 (kd_in kdn_171) (by rw [lnn_171]; exact hi5) (okX12_assigns (56, .iaload, 1) (List.mem_of_getElem? (i := 37) rfl)) ?_
        refine sk_isub hx hb (okX12_assigns (57, .isub, 1) (List.mem_of_getElem? (i := 38) rfl)) ?_
        obtain ⟨hr7, hM⟩ := hM
        refine sk_ci (sk_runS (As := [.int (iI ((I 168 ((10 * v1) + v3)) - (I 171 ((10 * v1) + v4))))]) (rest := [.int (iI ((10 * v3) + v4)), .ref (sk_ad G 178)]) S (c_Mo_square l G hr7 hM) sk_blind gX12_assigns_X12_square rfl hdX12_square ⟨⟨rfl, rfl⟩, Nat.le_of_ble_eq_true rfl, Nat.le_of_ble_eq_true rfl⟩ (sk_pre hK hw) rfl hl.1 rfl (Nat.le_of_ble_eq_true rfl) (okX12_assigns (58, .invokestatic 192, 3) (List.mem_of_getElem? (i := 39) rfl)) ⟨Nat.zero_le _, Nat.zero_le _⟩) hw (fun r_58 I_58 H locs hr_r_58 hM hw => ?_)
        refine lv_aload_n hx hb (okX12_assigns (61, .aload_n 0, 1) (List.mem_of_getElem? (i := 40) rfl)) rfl (lv_at hl 0 rfl) ?_
        refine sk_getr (b := 169) S hK hw kdn_158 (kd_in kdn_158) (C := RX12) (T := TX12) (N := 53) rfl hI12 19 ⟨by decide, rfl, by decide, rfl⟩ rfl (k' := 19) rfl rfl (by decide +kernel) hL4 (okX12_assigns (62, .getfield 44, 3) (List.mem_of_getElem? (i := 41) rfl)) ?_
        refine lv_bipush (v := iI 10) hx hb (okX12_assigns (65, .bipush 10, 2) (List.mem_of_getElem? (i := 42) rfl)) (by decide +kernel) ?_
        refine lv_iload_n hx hb (okX12_assigns (67, .iload_n 1, 1) (List.mem_of_getElem? (i := 43) rfl)) rfl (lv_at hl 1 rfl) ?_
        refine sk_imul hx hb (okX12_assigns (68, .imul, 1) (List.mem_of_getElem? (i := 44) rfl)) ?_
        refine lv_iload_n hx hb (okX12_assigns (69, .iload_n 3, 1) (List.mem_of_getElem? (i := 45) rfl)) rfl (lv_at hl 3 rfl) ?_
        refine sk_iadd hx hb (okX12_assigns (70, .iadd, 1) (List.mem_of_getElem? (i := 46) rfl)) ?_
        obtain ⟨hi8, hM⟩ := hM
        have hr9 := hw.1.2.2 169 ((10 * v1) + v3)
        refine sk_ild S hK hw kdn_169 (kd_in kdn_169) (by rw [lnn_169]; exact hi8) (okX12_assigns (71, .iaload, 1) (List.mem_of_getElem? (i := 47) rfl)) ?_
        refine lv_aload_n hx hb (okX12_assigns (72, .aload_n 0, 1) (List.mem_of_getElem? (i := 48) rfl)) rfl (lv_at hl 0 rfl) ?_
        refine sk_getr (b := 172) S hK hw kdn_158 (kd_in kdn_158) (C := RX12) (T := TX12) (N := 53) rfl hI12 22 ⟨by decide, rfl, by decide, rfl⟩ rfl (k' := 22) rfl rfl (by decide +kernel) hL5 (okX12_assigns (73, .getfield 53, 3) (List.mem_of_getElem? (i := 49) rfl)) ?_
        refine lv_bipush (v := iI 10) hx hb (okX12_assigns (76, .bipush 10, 2) (List.mem_of_getElem? (i := 50) rfl)) (by decide +kernel) ?_
        refine lv_iload_n hx hb (okX12_assigns (78, .iload_n 1, 1) (List.mem_of_getElem? (i := 51) rfl)) rfl (lv_at hl 1 rfl) ?_
        refine sk_imul hx hb (okX12_assigns (79, .imul, 1) (List.mem_of_getElem? (i := 52) rfl)) ?_
        refine lv_iload hx hb (okX12_assigns (80, .iload 4, 2) (List.mem_of_getElem? (i := 53) rfl)) (lv_at hl 4 rfl) ?_
        refine sk_iadd hx hb (okX12_assigns (82, .iadd, 1) (List.mem_of_getElem? (i := 54) rfl)) ?_
        obtain ⟨hi10, hM⟩ := hM
        have hr11 := hw.1.2.2 172 ((10 * v1) + v4)
        refine sk_ild S hK hw kdn_172 (kd_in kdn_172) (by rw [lnn_172]; exact hi10) (okX12_assigns (83, .iaload, 1) (List.mem_of_getElem? (i := 55) rfl)) ?_
        refine sk_isub hx hb (okX12_assigns (84, .isub, 1) (List.mem_of_getElem? (i := 56) rfl)) ?_
        obtain ⟨hr12, hM⟩ := hM
        refine sk_ci (sk_runS (As := [.int (iI ((I_58 169 ((10 * v1) + v3)) - (I_58 172 ((10 * v1) + v4))))]) (rest := [.int (iI r_58), .int (iI ((10 * v3) + v4)), .ref (sk_ad G 178)]) S (c_Mo_square l G hr12 hM) sk_blind gX12_assigns_X12_square rfl hdX12_square ⟨⟨rfl, rfl⟩, Nat.le_of_ble_eq_true rfl, Nat.le_of_ble_eq_true rfl⟩ (sk_pre hK hw) rfl hl.1 rfl (Nat.le_of_ble_eq_true rfl) (okX12_assigns (85, .invokestatic 192, 3) (List.mem_of_getElem? (i := 57) rfl)) ⟨Nat.zero_le _, Nat.zero_le _⟩) hw (fun r_85 I_85 H locs hr_r_85 hM hw => ?_)
        refine sk_iadd hx hb (okX12_assigns (88, .iadd, 1) (List.mem_of_getElem? (i := 58) rfl)) ?_
        refine lv_aload_n hx hb (okX12_assigns (89, .aload_n 0, 1) (List.mem_of_getElem? (i := 59) rfl)) rfl (lv_at hl 0 rfl) ?_
        refine sk_getr (b := 170) S hK hw kdn_158 (kd_in kdn_158) (C := RX12) (T := TX12) (N := 53) rfl hI12 20 ⟨by decide, rfl, by decide, rfl⟩ rfl (k' := 20) rfl rfl (by decide +kernel) hL6 (okX12_assigns (90, .getfield 47, 3) (List.mem_of_getElem? (i := 60) rfl)) ?_
        refine lv_bipush (v := iI 10) hx hb (okX12_assigns (93, .bipush 10, 2) (List.mem_of_getElem? (i := 61) rfl)) (by decide +kernel) ?_
        refine lv_iload_n hx hb (okX12_assigns (95, .iload_n 1, 1) (List.mem_of_getElem? (i := 62) rfl)) rfl (lv_at hl 1 rfl) ?_
        refine sk_imul hx hb (okX12_assigns (96, .imul, 1) (List.mem_of_getElem? (i := 63) rfl)) ?_
        refine lv_iload_n hx hb (okX12_assigns (97, .iload_n 3, 1) (List.mem_of_getElem? (i := 64) rfl)) rfl (lv_at hl 3 rfl) ?_
        refine sk_iadd hx hb (okX12_assigns (98, .iadd, 1) (List.mem_of_getElem? (i := 65) rfl)) ?_
        obtain ⟨hi13, hM⟩ := hM
        have hr14 := hw.1.2.2 170 ((10 * v1) + v3)
        refine sk_ild S hK hw kdn_170 (kd_in kdn_170) (by rw [lnn_170]; exact hi13) (okX12_assigns (99, .iaload, 1) (List.mem_of_getElem? (i := 66) rfl)) ?_
        refine lv_aload_n hx hb (okX12_assigns (100, .aload_n 0, 1) (List.mem_of_getElem? (i := 67) rfl)) rfl (lv_at hl 0 rfl) ?_
        refine sk_getr (b := 173) S hK hw kdn_158 (kd_in kdn_158) (C := RX12) (T := TX12) (N := 53) rfl hI12 23 ⟨by decide, rfl, by decide, rfl⟩ rfl (k' := 23) rfl rfl (by decide +kernel) hL7 (okX12_assigns (101, .getfield 56, 3) (List.mem_of_getElem? (i := 68) rfl)) ?_
        refine lv_bipush (v := iI 10) hx hb (okX12_assigns (104, .bipush 10, 2) (List.mem_of_getElem? (i := 69) rfl)) (by decide +kernel) ?_
        refine lv_iload_n hx hb (okX12_assigns (106, .iload_n 1, 1) (List.mem_of_getElem? (i := 70) rfl)) rfl (lv_at hl 1 rfl) ?_
        refine sk_imul hx hb (okX12_assigns (107, .imul, 1) (List.mem_of_getElem? (i := 71) rfl)) ?_
        refine lv_iload hx hb (okX12_assigns (108, .iload 4, 2) (List.mem_of_getElem? (i := 72) rfl)) (lv_at hl 4 rfl) ?_
        refine sk_iadd hx hb (okX12_assigns (110, .iadd, 1) (List.mem_of_getElem? (i := 73) rfl)) ?_
        obtain ⟨hi15, hM⟩ := hM
        have hr16 := hw.1.2.2 173 ((10 * v1) + v4)
        refine sk_ild S hK hw kdn_173 (kd_in kdn_173) (by rw [lnn_173]; exact hi15) (okX12_assigns (111, .iaload, 1) (List.mem_of_getElem? (i := 74) rfl)) ?_
        refine sk_isub hx hb (okX12_assigns (112, .isub, 1) (List.mem_of_getElem? (i := 75) rfl)) ?_
        obtain ⟨hr17, hM⟩ := hM
        refine sk_ci (sk_runS (As := [.int (iI ((I_85 170 ((10 * v1) + v3)) - (I_85 173 ((10 * v1) + v4))))]) (rest := [.int (iI (r_58 + r_85)), .int (iI ((10 * v3) + v4)), .ref (sk_ad G 178)]) S (c_Mo_square l G hr17 hM) sk_blind gX12_assigns_X12_square rfl hdX12_square ⟨⟨rfl, rfl⟩, Nat.le_of_ble_eq_true rfl, Nat.le_of_ble_eq_true rfl⟩ (sk_pre hK hw) rfl hl.1 rfl (Nat.le_of_ble_eq_true rfl) (okX12_assigns (113, .invokestatic 192, 3) (List.mem_of_getElem? (i := 76) rfl)) ⟨Nat.zero_le _, Nat.zero_le _⟩) hw (fun r_113 I_113 H locs hr_r_113 hM hw => ?_)
        refine sk_iadd hx hb (okX12_assigns (116, .iadd, 1) (List.mem_of_getElem? (i := 77) rfl)) ?_
        obtain ⟨hi18, hM⟩ := hM
        obtain ⟨hr19, hM⟩ := hM
        refine sk_ist S hK hw kdn_178 (kd_in kdn_178) (by rw [lnn_178]; exact hi18) hr19 (okX12_assigns (117, .iastore, 1) (List.mem_of_getElem? (i := 78) rfl)) (fun H locs hw => ?_)
        obtain ⟨hr20, hM⟩ := hM
        obtain ⟨v4_118, ev4_118⟩ : ∃ y : Int, y = v4 + 1 := ⟨_, rfl⟩
        have hM := hM v4_118 ev4_118
        have hr_v4_118 : rI v4_118 := by rw [ev4_118]; exact hr20
        refine lv_iinc (v := iI v4_118) (lv' := [(4, .int (iI v4_118)), (0, .ref (sk_ad G 158)), (1, .int (iI v1)), (2, .int (iI v2)), (3, .int (iI v3))]) hx hb (okX12_assigns (118, .iinc 4 1, 3) (List.mem_of_getElem? (i := 79) rfl)) hl (k := 4) rfl (by rw [ev4_118]; exact iI_add _ _) (by decide) rfl (fun ls hl => ?_)
        refine lv_goto (tgt := 17) hx hb (okX12_assigns (121, .goto (-104), 3) (List.mem_of_getElem? (i := 80) rfl)) (by decide) ?_
        exact (hX_17 v4_118 (up I_113 178 ((10 * v3) + v4) ((r_58 + r_85) + r_113))).1 hM hr_v4_118 H locs ls hw (lv_sub hl [1, 2, 3, 4, 0] rfl)
    refine (hX_9 v3 I).1 (hM X_9 (fun v3 I hM => (hX_9 v3 I).2 (fun hr_v3 H locs ls hw hl => ?_))) hr_v3 H locs ls hw hl
    refine lv_iload_n hx hb (okX12_assigns (9, .iload_n 3, 1) (List.mem_of_getElem? (i := 7) rfl)) rfl (lv_at hl 3 rfl) ?_
    refine lv_iload_n hx hb (okX12_assigns (10, .iload_n 2, 1) (List.mem_of_getElem? (i := 8) rfl)) rfl (lv_at hl 2 rfl) ?_
    refine sk_icmp_ge (tgt := 130) hx hb hr_v3 hr_v2 (okX12_assigns (11, .if_icmp .ge 119, 3) (List.mem_of_getElem? (i := 9) rfl)) (by decide) (fun c11 => ?_) (fun c11 => ?_)
    · have hM := hM.1 c11
      exact hJ_130 v1 v2 I hr_v1 hr_v2 hM H locs ls hw (lv_sub hl [0, 1, 2] rfl)
    · have hM := hM.2 c11
      refine lv_iconst (v := iI 0) hx hb (okX12_assigns (14, .iconst 0, 1) (List.mem_of_getElem? (i := 10) rfl)) rfl ?_
      refine lv_istore (lv' := [(4, .int (iI 0)), (0, .ref (sk_ad G 158)), (1, .int (iI v1)), (2, .int (iI v2)), (3, .int (iI v3))]) hx hb (okX12_assigns (15, .istore 4, 2) (List.mem_of_getElem? (i := 11) rfl)) hl (by decide) rfl (fun ls hl => ?_)
      exact hJ_17 v3 0 I hr_v3 (by decide) hM H locs ls hw (lv_sub hl [1, 2, 3, 4, 0] rfl)
  unfold M_Mo_assigns at hM
  intro H locs hw
  refine lv_aload_n hx hb (okX12_assigns (0, .aload_n 0, 1) (List.mem_of_getElem? (i := 0) rfl)) rfl (lv_at hl 0 rfl) ?_
  refine sk_getr (b := 176) S hK hw kdn_158 (kd_in kdn_158) (C := RX12) (T := TX12) (N := 53) rfl hI12 26 ⟨by decide, rfl, by decide, rfl⟩ rfl (k' := 26) rfl rfl (by decide +kernel) hL0 (okX12_assigns (1, .getfield 65, 3) (List.mem_of_getElem? (i := 1) rfl)) ?_
  refine lv_iload_n hx hb (okX12_assigns (4, .iload_n 1, 1) (List.mem_of_getElem? (i := 2) rfl)) rfl (lv_at hl 1 rfl) ?_
  obtain ⟨hi1, hM⟩ := hM
  have hr2 := hw.1.2.2 176 p1
  refine sk_ild S hK hw kdn_176 (kd_in kdn_176) (by rw [lnn_176]; exact hi1) (okX12_assigns (5, .iaload, 1) (List.mem_of_getElem? (i := 3) rfl)) ?_
  refine sk_nm (fun v2_6 ev2_6 => ?_)
  have hM := hM v2_6 ev2_6
  have hr_v2_6 : rI v2_6 := by rw [ev2_6]; exact hr2
  refine lv_istore_n (lv' := [(2, .int (iI v2_6)), (0, .ref (sk_ad G 158)), (1, .int (iI p1))]) hx hb (okX12_assigns (6, .istore_n 2, 1) (List.mem_of_getElem? (i := 4) rfl)) rfl hl (by decide) rfl (fun ls hl => ?_)
  refine lv_iconst (v := iI 0) hx hb (okX12_assigns (7, .iconst 0, 1) (List.mem_of_getElem? (i := 5) rfl)) rfl ?_
  refine lv_istore_n (lv' := [(3, .int (iI 0)), (2, .int (iI v2_6)), (0, .ref (sk_ad G 158)), (1, .int (iI p1))]) hx hb (okX12_assigns (8, .istore_n 3, 1) (List.mem_of_getElem? (i := 6) rfl)) rfl hl (by decide) rfl (fun ls hl => ?_)
  exact hJ_9 p1 v2_6 0 I hr_p1 hr_v2_6 (by decide) hM H locs ls hw (lv_sub hl [2, 3, 1, 0] rfl)
