def rmX4_meetBetween : Room := { frames := 2, cells := 0, slots := 0, locals := 115 }
set_option maxHeartbeats 4000000 in
set_option maxRecDepth 100000 in
theorem c_Pass_meetBetween (l : Launch) (G : sk_G) {p0 p1 p2 p3 p4 p5 p6 : Int} (hk_p0 : kd p0 = 4) (hr_p1 : rI p1) (hr_p2 : rI p2) (hr_p3 : rI p3) (hr_p4 : rI p4) (hr_p5 : rI p5) (hr_p6 : rI p6) {Q : Int → sk_S → Prop} {I : sk_S} (hM : M_Pass_meetBetween p0 p1 p2 p3 p4 p5 p6 Q I) : Met l yX4_meetBetween wsX4_meetBetween rmX4_meetBetween (va_Pc [.ref (sk_ad G p0), .int (iI p1), .int (iI p2), .int (iI p3), .int (iI p4), .int (iI p5), .int (iI p6)] (sk_U G 198 sk_t I)) (sk_Qz G 198 sk_t Q) 0 0 (sk_A G) := by
  refine Met.ofW (cc := cX4_meetBetween) (maxL := 7) (ret := (some .boolean)) (by decide) rfl ?_
  intro p e s m args below meth c s₁ B hml hv
  obtain ⟨rfl, hU, hK⟩ := hv
  have hx := B.exec
  have hb := B.bytes
  have hr0 := B.returns
  have hts := atoms_spec (ws := wsX4_meetBetween) B.pre
  have hown : s.vm.findClass RX4 = some m.cls := findClass_of_methodNamed B.named
  have hlocks := B.notSynchronized
  have S : CallFix p m c cX4_meetBetween 7 s ([.ref (sk_ad G p0), .int (iI p1), .int (iI p2), .int (iI p3), .int (iI p4), .int (iI p5), .int (iI p6)].toArray) wsX4_meetBetween RX4 := ⟨hx, hb, hml, hown, hts⟩
  have hL0 := hts (.fieldLink RX4 24 "SkyLights$Pass" "ticks" "I") (by decide +kernel)
  have hI4 : ∀ w ∈ u_ws RX4 TX4 3, w ∈ wsX4_meetBetween := by decide +kernel
  have hw : sk_W G 198 sk_t I s s.heap [] := ⟨hU, va_S.rf⟩
  have hl := lv_entry ([.ref (sk_ad G p0), .int (iI p1), .int (iI p2), .int (iI p3), .int (iI p4), .int (iI p5), .int (iI p6)]) (n := 7) (Nat.le_of_ble_eq_true rfl)
  rw [lg_entry_eq]
  generalize (lg_sl ([.ref (sk_ad G p0), .int (iI p1), .int (iI p2), .int (iI p3), .int (iI p4), .int (iI p5), .int (iI p6)]) ++ List.replicate (7 - (lg_sl ([.ref (sk_ad G p0), .int (iI p1), .int (iI p2), .int (iI p3), .int (iI p4), .int (iI p5), .int (iI p6)])).length) Slot.unset).toArray = ls at hl ⊢
  have hl : lv_has ls 7 [(0, .ref (sk_ad G p0)), (1, .int (iI p1)), (2, .int (iI p2)), (3, .int (iI p3)), (4, .int (iI p4)), (5, .int (iI p5)), (6, .int (iI p6))] := hl
  suffices hgo : ∀ (H : Heap) (locs : List Loc), sk_W G 198 sk_t I s H locs → W p l e (headSpec wsX4_meetBetween rmX4_meetBetween).room s m ([.ref (sk_ad G p0), .int (iI p1), .int (iI p2), .int (iI p3), .int (iI p4), .int (iI p5), .int (iI p6)].toArray) below meth c H locs 0 0 (MQ below (sk_Qz G 198 sk_t Q) ([.ref (sk_ad G p0), .int (iI p1), .int (iI p2), .int (iI p3), .int (iI p4), .int (iI p5), .int (iI p6)].toArray) s 0 0 (sk_A G)) (F0 m 0 ls []) from hgo _ _ hw
  unfold M_Pass_meetBetween at hM
  intro H locs hw
  refine lv_aload_n hx hb (okX4_meetBetween (0, .aload_n 0, 1) (List.mem_of_getElem? (i := 0) rfl)) rfl (lv_at hl 0 rfl) ?_
  refine lv_iload_n hx hb (okX4_meetBetween (1, .iload_n 1, 1) (List.mem_of_getElem? (i := 1) rfl)) rfl (lv_at hl 1 rfl) ?_
  refine lv_iload_n hx hb (okX4_meetBetween (2, .iload_n 2, 1) (List.mem_of_getElem? (i := 2) rfl)) rfl (lv_at hl 2 rfl) ?_
  refine lv_iconst (v := iI 0) hx hb (okX4_meetBetween (3, .iconst 0, 1) (List.mem_of_getElem? (i := 3) rfl)) rfl ?_
  refine lv_iload hx hb (okX4_meetBetween (4, .iload 4, 2) (List.mem_of_getElem? (i := 4) rfl)) (lv_at hl 4 rfl) ?_
  refine lv_iload hx hb (okX4_meetBetween (6, .iload 4, 2) (List.mem_of_getElem? (i := 5) rfl)) (lv_at hl 4 rfl) ?_
  refine lv_iload_n hx hb (okX4_meetBetween (8, .iload_n 3, 1) (List.mem_of_getElem? (i := 6) rfl)) rfl (lv_at hl 3 rfl) ?_
  refine sk_isub hx hb (okX4_meetBetween (9, .isub, 1) (List.mem_of_getElem? (i := 7) rfl)) ?_
  obtain ⟨hr1, hM⟩ := hM
  refine sk_ci (sk_runV (a := p0) (C := RX4) (As := [.int (iI p1), .int (iI p2), .int (iI 0), .int (iI p4), .int (iI (p4 - p3))]) (rest := []) S (c_Pass_apart l G hk_p0 hr_p1 hr_p2 (by decide) hr_p4 hr1 hM) sk_blind gX4_meetBetween_X4_apart rfl hdX4_apart ⟨⟨rfl, rfl⟩, Nat.le_of_ble_eq_true rfl, Nat.le_of_ble_eq_true rfl⟩ (sk_recv hK hw hk_p0 (kd_in hk_p0) (by decide) rfl) (sk_pre hK hw) rfl hl.1 rfl (Nat.le_of_ble_eq_true rfl) (okX4_meetBetween (10, .invokevirtual 90, 3) (List.mem_of_getElem? (i := 8) rfl)) ⟨Nat.zero_le _, Nat.zero_le _⟩) hw (fun r_10 I_10 H locs hr_r_10 hM hw => ?_)
  refine sk_i2l hx hb hr_r_10 (okX4_meetBetween (13, .i2l, 1) (List.mem_of_getElem? (i := 9) rfl)) ?_
  refine lv_aload_n hx hb (okX4_meetBetween (14, .aload_n 0, 1) (List.mem_of_getElem? (i := 10) rfl)) rfl (lv_at hl 0 rfl) ?_
  refine lv_iload_n hx hb (okX4_meetBetween (15, .iload_n 1, 1) (List.mem_of_getElem? (i := 11) rfl)) rfl (lv_at hl 1 rfl) ?_
  refine lv_iload_n hx hb (okX4_meetBetween (16, .iload_n 2, 1) (List.mem_of_getElem? (i := 12) rfl)) rfl (lv_at hl 2 rfl) ?_
  refine lv_iconst (v := iI 1) hx hb (okX4_meetBetween (17, .iconst 1, 1) (List.mem_of_getElem? (i := 13) rfl)) rfl ?_
  refine lv_iload hx hb (okX4_meetBetween (18, .iload 4, 2) (List.mem_of_getElem? (i := 14) rfl)) (lv_at hl 4 rfl) ?_
  refine lv_iload hx hb (okX4_meetBetween (20, .iload 4, 2) (List.mem_of_getElem? (i := 15) rfl)) (lv_at hl 4 rfl) ?_
  refine lv_iload_n hx hb (okX4_meetBetween (22, .iload_n 3, 1) (List.mem_of_getElem? (i := 16) rfl)) rfl (lv_at hl 3 rfl) ?_
  refine sk_isub hx hb (okX4_meetBetween (23, .isub, 1) (List.mem_of_getElem? (i := 17) rfl)) ?_
  refine sk_ci (sk_runV (a := p0) (C := RX4) (As := [.int (iI p1), .int (iI p2), .int (iI 1), .int (iI p4), .int (iI (p4 - p3))]) (rest := [.long (lI r_10)]) S (c_Pass_apart l G hk_p0 hr_p1 hr_p2 (by decide) hr_p4 hr1 hM) sk_blind gX4_meetBetween_X4_apart rfl hdX4_apart ⟨⟨rfl, rfl⟩, Nat.le_of_ble_eq_true rfl, Nat.le_of_ble_eq_true rfl⟩ (sk_recv hK hw hk_p0 (kd_in hk_p0) (by decide) rfl) (sk_pre hK hw) rfl hl.1 rfl (Nat.le_of_ble_eq_true rfl) (okX4_meetBetween (24, .invokevirtual 90, 3) (List.mem_of_getElem? (i := 18) rfl)) ⟨Nat.zero_le _, Nat.zero_le _⟩) hw (fun r_24 I_24 H locs hr_r_24 hM hw => ?_)
  refine sk_i2l hx hb hr_r_24 (okX4_meetBetween (27, .i2l, 1) (List.mem_of_getElem? (i := 19) rfl)) ?_
  refine lv_aload_n hx hb (okX4_meetBetween (28, .aload_n 0, 1) (List.mem_of_getElem? (i := 20) rfl)) rfl (lv_at hl 0 rfl) ?_
  refine lv_iload_n hx hb (okX4_meetBetween (29, .iload_n 1, 1) (List.mem_of_getElem? (i := 21) rfl)) rfl (lv_at hl 1 rfl) ?_
  refine lv_iload_n hx hb (okX4_meetBetween (30, .iload_n 2, 1) (List.mem_of_getElem? (i := 22) rfl)) rfl (lv_at hl 2 rfl) ?_
  refine lv_iconst (v := iI 2) hx hb (okX4_meetBetween (31, .iconst 2, 1) (List.mem_of_getElem? (i := 23) rfl)) rfl ?_
  refine lv_iload hx hb (okX4_meetBetween (32, .iload 4, 2) (List.mem_of_getElem? (i := 24) rfl)) (lv_at hl 4 rfl) ?_
  refine lv_iload hx hb (okX4_meetBetween (34, .iload 4, 2) (List.mem_of_getElem? (i := 25) rfl)) (lv_at hl 4 rfl) ?_
  refine lv_iload_n hx hb (okX4_meetBetween (36, .iload_n 3, 1) (List.mem_of_getElem? (i := 26) rfl)) rfl (lv_at hl 3 rfl) ?_
  refine sk_isub hx hb (okX4_meetBetween (37, .isub, 1) (List.mem_of_getElem? (i := 27) rfl)) ?_
  refine sk_ci (sk_runV (a := p0) (C := RX4) (As := [.int (iI p1), .int (iI p2), .int (iI 2), .int (iI p4), .int (iI (p4 - p3))]) (rest := [.long (lI r_24), .long (lI r_10)]) S (c_Pass_apart l G hk_p0 hr_p1 hr_p2 (by decide) hr_p4 hr1 hM) sk_blind gX4_meetBetween_X4_apart rfl hdX4_apart ⟨⟨rfl, rfl⟩, Nat.le_of_ble_eq_true rfl, Nat.le_of_ble_eq_true rfl⟩ (sk_recv hK hw hk_p0 (kd_in hk_p0) (by decide) rfl) (sk_pre hK hw) rfl hl.1 rfl (Nat.le_of_ble_eq_true rfl) (okX4_meetBetween (38, .invokevirtual 90, 3) (List.mem_of_getElem? (i := 28) rfl)) ⟨Nat.zero_le _, Nat.zero_le _⟩) hw (fun r_38 I_38 H locs hr_r_38 hM hw => ?_)
  refine sk_i2l hx hb hr_r_38 (okX4_meetBetween (41, .i2l, 1) (List.mem_of_getElem? (i := 29) rfl)) ?_
  refine lv_aload_n hx hb (okX4_meetBetween (42, .aload_n 0, 1) (List.mem_of_getElem? (i := 30) rfl)) rfl (lv_at hl 0 rfl) ?_
  refine lv_iload_n hx hb (okX4_meetBetween (43, .iload_n 1, 1) (List.mem_of_getElem? (i := 31) rfl)) rfl (lv_at hl 1 rfl) ?_
  refine lv_iload_n hx hb (okX4_meetBetween (44, .iload_n 2, 1) (List.mem_of_getElem? (i := 32) rfl)) rfl (lv_at hl 2 rfl) ?_
  refine lv_iconst (v := iI 0) hx hb (okX4_meetBetween (45, .iconst 0, 1) (List.mem_of_getElem? (i := 33) rfl)) rfl ?_
  refine lv_iload hx hb (okX4_meetBetween (46, .iload 5, 2) (List.mem_of_getElem? (i := 34) rfl)) (lv_at hl 5 rfl) ?_
  refine lv_iload hx hb (okX4_meetBetween (48, .iload 5, 2) (List.mem_of_getElem? (i := 35) rfl)) (lv_at hl 5 rfl) ?_
  refine lv_iload_n hx hb (okX4_meetBetween (50, .iload_n 3, 1) (List.mem_of_getElem? (i := 36) rfl)) rfl (lv_at hl 3 rfl) ?_
  refine sk_isub hx hb (okX4_meetBetween (51, .isub, 1) (List.mem_of_getElem? (i := 37) rfl)) ?_
  obtain ⟨hr2, hM⟩ := hM
  refine sk_ci (sk_runV (a := p0) (C := RX4) (As := [.int (iI p1), .int (iI p2), .int (iI 0), .int (iI p5), .int (iI (p5 - p3))]) (rest := [.long (lI r_38), .long (lI r_24), .long (lI r_10)]) S (c_Pass_apart l G hk_p0 hr_p1 hr_p2 (by decide) hr_p5 hr2 hM) sk_blind gX4_meetBetween_X4_apart rfl hdX4_apart ⟨⟨rfl, rfl⟩, Nat.le_of_ble_eq_true rfl, Nat.le_of_ble_eq_true rfl⟩ (sk_recv hK hw hk_p0 (kd_in hk_p0) (by decide) rfl) (sk_pre hK hw) rfl hl.1 rfl (Nat.le_of_ble_eq_true rfl) (okX4_meetBetween (52, .invokevirtual 90, 3) (List.mem_of_getElem? (i := 38) rfl)) ⟨Nat.zero_le _, Nat.zero_le _⟩) hw (fun r_52 I_52 H locs hr_r_52 hM hw => ?_)
  refine sk_i2l hx hb hr_r_52 (okX4_meetBetween (55, .i2l, 1) (List.mem_of_getElem? (i := 39) rfl)) ?_
  refine lv_aload_n hx hb (okX4_meetBetween (56, .aload_n 0, 1) (List.mem_of_getElem? (i := 40) rfl)) rfl (lv_at hl 0 rfl) ?_
  refine lv_iload_n hx hb (okX4_meetBetween (57, .iload_n 1, 1) (List.mem_of_getElem? (i := 41) rfl)) rfl (lv_at hl 1 rfl) ?_
  refine lv_iload_n hx hb (okX4_meetBetween (58, .iload_n 2, 1) (List.mem_of_getElem? (i := 42) rfl)) rfl (lv_at hl 2 rfl) ?_
  refine lv_iconst (v := iI 1) hx hb (okX4_meetBetween (59, .iconst 1, 1) (List.mem_of_getElem? (i := 43) rfl)) rfl ?_
  refine lv_iload hx hb (okX4_meetBetween (60, .iload 5, 2) (List.mem_of_getElem? (i := 44) rfl)) (lv_at hl 5 rfl) ?_
  refine lv_iload hx hb (okX4_meetBetween (62, .iload 5, 2) (List.mem_of_getElem? (i := 45) rfl)) (lv_at hl 5 rfl) ?_
  refine lv_iload_n hx hb (okX4_meetBetween (64, .iload_n 3, 1) (List.mem_of_getElem? (i := 46) rfl)) rfl (lv_at hl 3 rfl) ?_
  refine sk_isub hx hb (okX4_meetBetween (65, .isub, 1) (List.mem_of_getElem? (i := 47) rfl)) ?_
  refine sk_ci (sk_runV (a := p0) (C := RX4) (As := [.int (iI p1), .int (iI p2), .int (iI 1), .int (iI p5), .int (iI (p5 - p3))]) (rest := [.long (lI r_52), .long (lI r_38), .long (lI r_24), .long (lI r_10)]) S (c_Pass_apart l G hk_p0 hr_p1 hr_p2 (by decide) hr_p5 hr2 hM) sk_blind gX4_meetBetween_X4_apart rfl hdX4_apart ⟨⟨rfl, rfl⟩, Nat.le_of_ble_eq_true rfl, Nat.le_of_ble_eq_true rfl⟩ (sk_recv hK hw hk_p0 (kd_in hk_p0) (by decide) rfl) (sk_pre hK hw) rfl hl.1 rfl (Nat.le_of_ble_eq_true rfl) (okX4_meetBetween (66, .invokevirtual 90, 3) (List.mem_of_getElem? (i := 48) rfl)) ⟨Nat.zero_le _, Nat.zero_le _⟩) hw (fun r_66 I_66 H locs hr_r_66 hM hw => ?_)
  refine sk_i2l hx hb hr_r_66 (okX4_meetBetween (69, .i2l, 1) (List.mem_of_getElem? (i := 49) rfl)) ?_
  refine lv_aload_n hx hb (okX4_meetBetween (70, .aload_n 0, 1) (List.mem_of_getElem? (i := 50) rfl)) rfl (lv_at hl 0 rfl) ?_
  refine lv_iload_n hx hb (okX4_meetBetween (71, .iload_n 1, 1) (List.mem_of_getElem? (i := 51) rfl)) rfl (lv_at hl 1 rfl) ?_
  refine lv_iload_n hx hb (okX4_meetBetween (72, .iload_n 2, 1) (List.mem_of_getElem? (i := 52) rfl)) rfl (lv_at hl 2 rfl) ?_
  refine lv_iconst (v := iI 2) hx hb (okX4_meetBetween (73, .iconst 2, 1) (List.mem_of_getElem? (i := 53) rfl)) rfl ?_
  refine lv_iload hx hb (okX4_meetBetween (74, .iload 5, 2) (List.mem_of_getElem? (i := 54) rfl)) (lv_at hl 5 rfl) ?_
  refine lv_iload hx hb (okX4_meetBetween (76, .iload 5, 2) (List.mem_of_getElem? (i := 55) rfl)) (lv_at hl 5 rfl) ?_
  refine lv_iload_n hx hb (okX4_meetBetween (78, .iload_n 3, 1) (List.mem_of_getElem? (i := 56) rfl)) rfl (lv_at hl 3 rfl) ?_
  refine sk_isub hx hb (okX4_meetBetween (79, .isub, 1) (List.mem_of_getElem? (i := 57) rfl)) ?_
  refine sk_ci (sk_runV (a := p0) (C := RX4) (As := [.int (iI p1), .int (iI p2), .int (iI 2), .int (iI p5), .int (iI (p5 - p3))]) (rest := [.long (lI r_66), .long (lI r_52), .long (lI r_38), .long (lI r_24), .long (lI r_10)]) S (c_Pass_apart l G hk_p0 hr_p1 hr_p2 (by decide) hr_p5 hr2 hM) sk_blind gX4_meetBetween_X4_apart rfl hdX4_apart ⟨⟨rfl, rfl⟩, Nat.le_of_ble_eq_true rfl, Nat.le_of_ble_eq_true rfl⟩ (sk_recv hK hw hk_p0 (kd_in hk_p0) (by decide) rfl) (sk_pre hK hw) rfl hl.1 rfl (Nat.le_of_ble_eq_true rfl) (okX4_meetBetween (80, .invokevirtual 90, 3) (List.mem_of_getElem? (i := 58) rfl)) ⟨Nat.zero_le _, Nat.zero_le _⟩) hw (fun r_80 I_80 H locs hr_r_80 hM hw => ?_)
  refine sk_i2l hx hb hr_r_80 (okX4_meetBetween (83, .i2l, 1) (List.mem_of_getElem? (i := 59) rfl)) ?_
  refine lv_iload hx hb (okX4_meetBetween (84, .iload 6, 2) (List.mem_of_getElem? (i := 60) rfl)) (lv_at hl 6 rfl) ?_
  refine lv_aload_n hx hb (okX4_meetBetween (86, .aload_n 0, 1) (List.mem_of_getElem? (i := 61) rfl)) rfl (lv_at hl 0 rfl) ?_
  have hr3 := hw.1.2.2 p0 2
  refine sk_geti S hK hw hk_p0 (kd_in hk_p0) (C := RX4) (T := TX4) (N := 3) rfl hI4 2 ⟨by decide, rfl, by decide, rfl⟩ rfl (k' := 2) rfl hL0 (okX4_meetBetween (87, .getfield 24, 3) (List.mem_of_getElem? (i := 62) rfl)) ?_
  refine sk_imul hx hb (okX4_meetBetween (90, .imul, 1) (List.mem_of_getElem? (i := 63) rfl)) ?_
  obtain ⟨hr4, hM⟩ := hM
  refine sk_i2l hx hb hr4 (okX4_meetBetween (91, .i2l, 1) (List.mem_of_getElem? (i := 64) rfl)) ?_
  refine sk_ci (sk_runS (As := [.long (lI r_10), .long (lI r_24), .long (lI r_38), .long (lI r_52), .long (lI r_66), .long (lI r_80), .long (lI (p6 * (I_80 p0 2)))]) (rest := []) S (c_Air_isNearer l G ⟨Int.le_trans (by decide) (hr_r_10).1, Int.lt_trans (hr_r_10).2 (by decide)⟩ ⟨Int.le_trans (by decide) (hr_r_24).1, Int.lt_trans (hr_r_24).2 (by decide)⟩ ⟨Int.le_trans (by decide) (hr_r_38).1, Int.lt_trans (hr_r_38).2 (by decide)⟩ ⟨Int.le_trans (by decide) (hr_r_52).1, Int.lt_trans (hr_r_52).2 (by decide)⟩ ⟨Int.le_trans (by decide) (hr_r_66).1, Int.lt_trans (hr_r_66).2 (by decide)⟩ ⟨Int.le_trans (by decide) (hr_r_80).1, Int.lt_trans (hr_r_80).2 (by decide)⟩ ⟨Int.le_trans (by decide) (hr4).1, Int.lt_trans (hr4).2 (by decide)⟩ hM) sk_blind gX4_meetBetween_X0_isNearer rfl hdX0_isNearer ⟨⟨rfl, rfl⟩, Nat.le_of_ble_eq_true rfl, Nat.le_of_ble_eq_true rfl⟩ (sk_pre hK hw) rfl hl.1 rfl (Nat.le_of_ble_eq_true rfl) (okX4_meetBetween (92, .invokestatic 94, 3) (List.mem_of_getElem? (i := 65) rfl)) ⟨Nat.zero_le _, Nat.zero_le _⟩) hw (fun r_92 I_92 H locs hr_r_92 hM hw => ?_)
  obtain ⟨hb_r_92, hM⟩ := hM
  exact sk_zret hx hb hr0 hlocks hK hw hb_r_92 hM (okX4_meetBetween (95, .ireturn, 1) (List.mem_of_getElem? (i := 66) rfl))
def rmX4_meet : Room := { frames := 3, cells := 0, slots := 0, locals := 173 }
set_option maxHeartbeats 4000000 in
set_option maxRecDepth 100000 in
theorem c_Pass_meet (l : Launch) (G : sk_G) {p0 p1 p2 p3 p4 : Int} (hk_p0 : kd p0 = 4) (hr_p1 : rI p1) (hr_p2 : rI p2) (hr_p3 : rI p3) (hr_p4 : rI p4) {Q : Int → sk_S → Prop} {I : sk_S} (hM : M_Pass_meet p0 p1 p2 p3 p4 Q I) : Met l yX4_meet wsX4_meet rmX4_meet (va_Pc [.ref (sk_ad G p0), .int (iI p1), .int (iI p2), .int (iI p3), .int (iI p4)] (sk_U G 198 sk_t I)) (sk_Qz G 198 sk_t Q) 0 0 (sk_A G) := by
  refine Met.ofW (cc := cX4_meet) (maxL := 10) (ret := (some .boolean)) (by decide) rfl ?_
  intro p e s m args below meth c s₁ B hml hv
  obtain ⟨rfl, hU, hK⟩ := hv
  have hx := B.exec
  have hb := B.bytes
  have hr0 := B.returns
  have hts := atoms_spec (ws := wsX4_meet) B.pre
  have hown : s.vm.findClass RX4 = some m.cls := findClass_of_methodNamed B.named
  have hlocks := B.notSynchronized
  have S : CallFix p m c cX4_meet 10 s ([.ref (sk_ad G p0), .int (iI p1), .int (iI p2), .int (iI p3), .int (iI p4)].toArray) wsX4_meet RX4 := ⟨hx, hb, hml, hown, hts⟩
  have hL0 := hts (.methodLink RX4 78 Lib.Math.min.name) (by decide +kernel)
  have hL1 := hts (.static Lib.Math.min.name) (by decide +kernel)
  have hL2 := hts (.initialized "java/lang/Math") (by decide +kernel)
  have hL3 := hts (.code Lib.Math.min.name Lib.Math.min.code 2 (some .int)) (by decide +kernel)
  have hL4 := hts (.methodLink RX4 83 Lib.Math.max.name) (by decide +kernel)
  have hL5 := hts (.static Lib.Math.max.name) (by decide +kernel)
  have hL6 := hts (.code Lib.Math.max.name Lib.Math.max.code 2 (some .int)) (by decide +kernel)
  have hL7 := hts (.fieldLink RX4 24 "SkyLights$Pass" "ticks" "I") (by decide +kernel)
  have hI4 : ∀ w ∈ u_ws RX4 TX4 3, w ∈ wsX4_meet := by decide +kernel
  have hw : sk_W G 198 sk_t I s s.heap [] := ⟨hU, va_S.rf⟩
  have hl := lv_entry ([.ref (sk_ad G p0), .int (iI p1), .int (iI p2), .int (iI p3), .int (iI p4)]) (n := 10) (Nat.le_of_ble_eq_true rfl)
  rw [lg_entry_eq]
  generalize (lg_sl ([.ref (sk_ad G p0), .int (iI p1), .int (iI p2), .int (iI p3), .int (iI p4)]) ++ List.replicate (10 - (lg_sl ([.ref (sk_ad G p0), .int (iI p1), .int (iI p2), .int (iI p3), .int (iI p4)])).length) Slot.unset).toArray = ls at hl ⊢
  have hl : lv_has ls 10 [(0, .ref (sk_ad G p0)), (1, .int (iI p1)), (2, .int (iI p2)), (3, .int (iI p3)), (4, .int (iI p4))] := hl
  suffices hgo : ∀ (H : Heap) (locs : List Loc), sk_W G 198 sk_t I s H locs → W p l e (headSpec wsX4_meet rmX4_meet).room s m ([.ref (sk_ad G p0), .int (iI p1), .int (iI p2), .int (iI p3), .int (iI p4)].toArray) below meth c H locs 0 0 (MQ below (sk_Qz G 198 sk_t Q) ([.ref (sk_ad G p0), .int (iI p1), .int (iI p2), .int (iI p3), .int (iI p4)].toArray) s 0 0 (sk_A G)) (F0 m 0 ls []) from hgo _ _ hw
  unfold M_Pass_meet at hM
  intro H locs hw
  refine lv_iconst (v := iI 0) hx hb (okX4_meet (0, .iconst 0, 1) (List.mem_of_getElem? (i := 0) rfl)) rfl ?_
  refine lv_iload_n hx hb (okX4_meet (1, .iload_n 3, 1) (List.mem_of_getElem? (i := 1) rfl)) rfl (lv_at hl 3 rfl) ?_
  refine sk_min hx hb (hml.trans hl.1.symm) hown hL0 hL1 hL2 hL3 ⟨Nat.le_of_ble_eq_true rfl, Nat.le_of_ble_eq_true rfl, Nat.zero_le _, Nat.zero_le _⟩ (by decide) hr_p3 (okX4_meet (2, .invokestatic 78, 3) (List.mem_of_getElem? (i := 2) rfl)) ?_
  refine sk_nm (fun v5_5 ev5_5 => ?_)
  have hM := hM v5_5 ev5_5
  have hr_v5_5 : rI v5_5 := by rw [ev5_5]; exact (rI_imin (by decide) hr_p3)
  refine lv_istore (lv' := [(5, .int (iI v5_5)), (0, .ref (sk_ad G p0)), (1, .int (iI p1)), (2, .int (iI p2)), (3, .int (iI p3)), (4, .int (iI p4))]) hx hb (okX4_meet (5, .istore 5, 2) (List.mem_of_getElem? (i := 3) rfl)) hl (by decide) rfl (fun ls hl => ?_)
  refine lv_iconst (v := iI 0) hx hb (okX4_meet (7, .iconst 0, 1) (List.mem_of_getElem? (i := 4) rfl)) rfl ?_
  refine lv_iload_n hx hb (okX4_meet (8, .iload_n 3, 1) (List.mem_of_getElem? (i := 5) rfl)) rfl (lv_at hl 4 rfl) ?_
  refine sk_max hx hb (hml.trans hl.1.symm) hown hL4 hL5 hL2 hL6 ⟨Nat.le_of_ble_eq_true rfl, Nat.le_of_ble_eq_true rfl, Nat.zero_le _, Nat.zero_le _⟩ (by decide) hr_p3 (okX4_meet (9, .invokestatic 83, 3) (List.mem_of_getElem? (i := 6) rfl)) ?_
  refine sk_nm (fun v6_12 ev6_12 => ?_)
  have hM := hM v6_12 ev6_12
  have hr_v6_12 : rI v6_12 := by rw [ev6_12]; exact (rI_imax (by decide) hr_p3)
  refine lv_istore (lv' := [(6, .int (iI v6_12)), (5, .int (iI v5_5)), (0, .ref (sk_ad G p0)), (1, .int (iI p1)), (2, .int (iI p2)), (3, .int (iI p3)), (4, .int (iI p4))]) hx hb (okX4_meet (12, .istore 6, 2) (List.mem_of_getElem? (i := 7) rfl)) hl (by decide) rfl (fun ls hl => ?_)
  refine lv_iload hx hb (okX4_meet (14, .iload 5, 2) (List.mem_of_getElem? (i := 8) rfl)) (lv_at hl 1 rfl) ?_
  refine lv_aload_n hx hb (okX4_meet (16, .aload_n 0, 1) (List.mem_of_getElem? (i := 9) rfl)) rfl (lv_at hl 2 rfl) ?_
  have hr1 := hw.1.2.2 p0 2
  refine sk_geti S hK hw hk_p0 (kd_in hk_p0) (C := RX4) (T := TX4) (N := 3) rfl hI4 2 ⟨by decide, rfl, by decide, rfl⟩ rfl (k' := 2) rfl hL7 (okX4_meet (17, .getfield 24, 3) (List.mem_of_getElem? (i := 10) rfl)) ?_
  refine sk_iadd hx hb (okX4_meet (20, .iadd, 1) (List.mem_of_getElem? (i := 11) rfl)) ?_
  obtain ⟨hr2, hM⟩ := hM
  refine sk_nm (fun v7_21 ev7_21 => ?_)
  have hM := hM v7_21 ev7_21
  have hr_v7_21 : rI v7_21 := by rw [ev7_21]; exact hr2
  refine lv_istore (lv' := [(7, .int (iI v7_21)), (6, .int (iI v6_12)), (5, .int (iI v5_5)), (0, .ref (sk_ad G p0)), (1, .int (iI p1)), (2, .int (iI p2)), (3, .int (iI p3)), (4, .int (iI p4))]) hx hb (okX4_meet (21, .istore 7, 2) (List.mem_of_getElem? (i := 12) rfl)) hl (by decide) rfl (fun ls hl => ?_)
  refine lv_iload hx hb (okX4_meet (23, .iload 6, 2) (List.mem_of_getElem? (i := 13) rfl)) (lv_at hl 1 rfl) ?_
  refine lv_iload hx hb (okX4_meet (25, .iload 7, 2) (List.mem_of_getElem? (i := 14) rfl)) (lv_at hl 0 rfl) ?_
  refine sk_min hx hb (hml.trans hl.1.symm) hown hL0 hL1 hL2 hL3 ⟨Nat.le_of_ble_eq_true rfl, Nat.le_of_ble_eq_true rfl, Nat.zero_le _, Nat.zero_le _⟩ hr_v6_12 hr_v7_21 (okX4_meet (27, .invokestatic 78, 3) (List.mem_of_getElem? (i := 15) rfl)) ?_
  refine sk_nm (fun v8_30 ev8_30 => ?_)
  have hM := hM v8_30 ev8_30
  have hr_v8_30 : rI v8_30 := by rw [ev8_30]; exact (rI_imin hr_v6_12 hr_v7_21)
  refine lv_istore (lv' := [(8, .int (iI v8_30)), (7, .int (iI v7_21)), (6, .int (iI v6_12)), (5, .int (iI v5_5)), (0, .ref (sk_ad G p0)), (1, .int (iI p1)), (2, .int (iI p2)), (3, .int (iI p3)), (4, .int (iI p4))]) hx hb (okX4_meet (30, .istore 8, 2) (List.mem_of_getElem? (i := 16) rfl)) hl (by decide) rfl (fun ls hl => ?_)
  refine lv_iload hx hb (okX4_meet (32, .iload 6, 2) (List.mem_of_getElem? (i := 17) rfl)) (lv_at hl 2 rfl) ?_
  refine lv_iload hx hb (okX4_meet (34, .iload 7, 2) (List.mem_of_getElem? (i := 18) rfl)) (lv_at hl 1 rfl) ?_
  refine sk_max hx hb (hml.trans hl.1.symm) hown hL4 hL5 hL2 hL6 ⟨Nat.le_of_ble_eq_true rfl, Nat.le_of_ble_eq_true rfl, Nat.zero_le _, Nat.zero_le _⟩ hr_v6_12 hr_v7_21 (okX4_meet (36, .invokestatic 83, 3) (List.mem_of_getElem? (i := 19) rfl)) ?_
  refine sk_nm (fun v9_39 ev9_39 => ?_)
  have hM := hM v9_39 ev9_39
  have hr_v9_39 : rI v9_39 := by rw [ev9_39]; exact (rI_imax hr_v6_12 hr_v7_21)
  refine lv_istore (lv' := [(9, .int (iI v9_39)), (8, .int (iI v8_30)), (7, .int (iI v7_21)), (6, .int (iI v6_12)), (5, .int (iI v5_5)), (0, .ref (sk_ad G p0)), (1, .int (iI p1)), (2, .int (iI p2)), (3, .int (iI p3)), (4, .int (iI p4))]) hx hb (okX4_meet (39, .istore 9, 2) (List.mem_of_getElem? (i := 20) rfl)) hl (by decide) rfl (fun ls hl => ?_)
  refine lv_aload_n hx hb (okX4_meet (41, .aload_n 0, 1) (List.mem_of_getElem? (i := 21) rfl)) rfl (lv_at hl 5 rfl) ?_
  refine lv_iload_n hx hb (okX4_meet (42, .iload_n 1, 1) (List.mem_of_getElem? (i := 22) rfl)) rfl (lv_at hl 6 rfl) ?_
  refine lv_iload_n hx hb (okX4_meet (43, .iload_n 2, 1) (List.mem_of_getElem? (i := 23) rfl)) rfl (lv_at hl 7 rfl) ?_
  refine lv_iload_n hx hb (okX4_meet (44, .iload_n 3, 1) (List.mem_of_getElem? (i := 24) rfl)) rfl (lv_at hl 8 rfl) ?_
  refine lv_iload hx hb (okX4_meet (45, .iload 5, 2) (List.mem_of_getElem? (i := 25) rfl)) (lv_at hl 4 rfl) ?_
  refine lv_iload hx hb (okX4_meet (47, .iload 8, 2) (List.mem_of_getElem? (i := 26) rfl)) (lv_at hl 1 rfl) ?_
  refine lv_iload hx hb (okX4_meet (49, .iload 4, 2) (List.mem_of_getElem? (i := 27) rfl)) (lv_at hl 9 rfl) ?_
  refine sk_ci (sk_runV (a := p0) (C := RX4) (As := [.int (iI p1), .int (iI p2), .int (iI p3), .int (iI v5_5), .int (iI v8_30), .int (iI p4)]) (rest := []) S (c_Pass_meetBetween l G hk_p0 hr_p1 hr_p2 hr_p3 hr_v5_5 hr_v8_30 hr_p4 hM) sk_blind gX4_meet_X4_meetBetween rfl hdX4_meetBetween ⟨⟨rfl, rfl⟩, Nat.le_of_ble_eq_true rfl, Nat.le_of_ble_eq_true rfl⟩ (sk_recv hK hw hk_p0 (kd_in hk_p0) (by decide) rfl) (sk_pre hK hw) rfl hl.1 rfl (Nat.le_of_ble_eq_true rfl) (okX4_meet (51, .invokevirtual 86, 3) (List.mem_of_getElem? (i := 28) rfl)) ⟨Nat.zero_le _, Nat.zero_le _⟩) hw (fun r_51 I_51 H locs hr_r_51 hM hw => ?_)
  obtain ⟨hb_r_51, hM⟩ := hM
  refine sk_if_ne (tgt := 94) hx hb hr_r_51 (okX4_meet (54, .ifCond .ne 40, 3) (List.mem_of_getElem? (i := 29) rfl)) (by decide) (fun c54 => ?_) (fun c54 => ?_)
  · have hM := hM.1 c54
    refine lv_iconst (v := iI 1) hx hb (okX4_meet (94, .iconst 1, 1) (List.mem_of_getElem? (i := 51) rfl)) rfl ?_
    refine lv_goto (tgt := 99) hx hb (okX4_meet (95, .goto 4, 3) (List.mem_of_getElem? (i := 52) rfl)) (by decide) ?_
    exact sk_zret hx hb hr0 hlocks hK hw (Or.inr rfl) hM (okX4_meet (99, .ireturn, 1) (List.mem_of_getElem? (i := 54) rfl))
  · have hM := hM.2 c54
    refine lv_aload_n hx hb (okX4_meet (57, .aload_n 0, 1) (List.mem_of_getElem? (i := 30) rfl)) rfl (lv_at hl 5 rfl) ?_
    refine lv_iload_n hx hb (okX4_meet (58, .iload_n 1, 1) (List.mem_of_getElem? (i := 31) rfl)) rfl (lv_at hl 6 rfl) ?_
    refine lv_iload_n hx hb (okX4_meet (59, .iload_n 2, 1) (List.mem_of_getElem? (i := 32) rfl)) rfl (lv_at hl 7 rfl) ?_
    refine lv_iload_n hx hb (okX4_meet (60, .iload_n 3, 1) (List.mem_of_getElem? (i := 33) rfl)) rfl (lv_at hl 8 rfl) ?_
    refine lv_iload hx hb (okX4_meet (61, .iload 8, 2) (List.mem_of_getElem? (i := 34) rfl)) (lv_at hl 1 rfl) ?_
    refine lv_iload hx hb (okX4_meet (63, .iload 9, 2) (List.mem_of_getElem? (i := 35) rfl)) (lv_at hl 0 rfl) ?_
    refine lv_iload hx hb (okX4_meet (65, .iload 4, 2) (List.mem_of_getElem? (i := 36) rfl)) (lv_at hl 9 rfl) ?_
    refine sk_ci (sk_runV (a := p0) (C := RX4) (As := [.int (iI p1), .int (iI p2), .int (iI p3), .int (iI v8_30), .int (iI v9_39), .int (iI p4)]) (rest := []) S (c_Pass_meetBetween l G hk_p0 hr_p1 hr_p2 hr_p3 hr_v8_30 hr_v9_39 hr_p4 hM) sk_blind gX4_meet_X4_meetBetween rfl hdX4_meetBetween ⟨⟨rfl, rfl⟩, Nat.le_of_ble_eq_true rfl, Nat.le_of_ble_eq_true rfl⟩ (sk_recv hK hw hk_p0 (kd_in hk_p0) (by decide) rfl) (sk_pre hK hw) rfl hl.1 rfl (Nat.le_of_ble_eq_true rfl) (okX4_meet (67, .invokevirtual 86, 3) (List.mem_of_getElem? (i := 37) rfl)) ⟨Nat.zero_le _, Nat.zero_le _⟩) hw (fun r_67 I_67 H locs hr_r_67 hM hw => ?_)
    obtain ⟨hb_r_67, hM⟩ := hM
    refine sk_if_ne (tgt := 94) hx hb hr_r_67 (okX4_meet (70, .ifCond .ne 24, 3) (List.mem_of_getElem? (i := 38) rfl)) (by decide) (fun c70 => ?_) (fun c70 => ?_)
    · have hM := hM.1 c70
      refine lv_iconst (v := iI 1) hx hb (okX4_meet (94, .iconst 1, 1) (List.mem_of_getElem? (i := 51) rfl)) rfl ?_
      refine lv_goto (tgt := 99) hx hb (okX4_meet (95, .goto 4, 3) (List.mem_of_getElem? (i := 52) rfl)) (by decide) ?_
      exact sk_zret hx hb hr0 hlocks hK hw (Or.inr rfl) hM (okX4_meet (99, .ireturn, 1) (List.mem_of_getElem? (i := 54) rfl))
    · have hM := hM.2 c70
      refine lv_aload_n hx hb (okX4_meet (73, .aload_n 0, 1) (List.mem_of_getElem? (i := 39) rfl)) rfl (lv_at hl 5 rfl) ?_
      refine lv_iload_n hx hb (okX4_meet (74, .iload_n 1, 1) (List.mem_of_getElem? (i := 40) rfl)) rfl (lv_at hl 6 rfl) ?_
      refine lv_iload_n hx hb (okX4_meet (75, .iload_n 2, 1) (List.mem_of_getElem? (i := 41) rfl)) rfl (lv_at hl 7 rfl) ?_
      refine lv_iload_n hx hb (okX4_meet (76, .iload_n 3, 1) (List.mem_of_getElem? (i := 42) rfl)) rfl (lv_at hl 8 rfl) ?_
      refine lv_iload hx hb (okX4_meet (77, .iload 9, 2) (List.mem_of_getElem? (i := 43) rfl)) (lv_at hl 0 rfl) ?_
      refine lv_iload hx hb (okX4_meet (79, .iload 6, 2) (List.mem_of_getElem? (i := 44) rfl)) (lv_at hl 3 rfl) ?_
      refine lv_aload_n hx hb (okX4_meet (81, .aload_n 0, 1) (List.mem_of_getElem? (i := 45) rfl)) rfl (lv_at hl 5 rfl) ?_
      have hr3 := hw.1.2.2 p0 2
      refine sk_geti S hK hw hk_p0 (kd_in hk_p0) (C := RX4) (T := TX4) (N := 3) rfl hI4 2 ⟨by decide, rfl, by decide, rfl⟩ rfl (k' := 2) rfl hL7 (okX4_meet (82, .getfield 24, 3) (List.mem_of_getElem? (i := 46) rfl)) ?_
      refine sk_iadd hx hb (okX4_meet (85, .iadd, 1) (List.mem_of_getElem? (i := 47) rfl)) ?_
      refine lv_iload hx hb (okX4_meet (86, .iload 4, 2) (List.mem_of_getElem? (i := 48) rfl)) (lv_at hl 9 rfl) ?_
      obtain ⟨hr4, hM⟩ := hM
      refine sk_ci (sk_runV (a := p0) (C := RX4) (As := [.int (iI p1), .int (iI p2), .int (iI p3), .int (iI v9_39), .int (iI (v6_12 + (I_67 p0 2))), .int (iI p4)]) (rest := []) S (c_Pass_meetBetween l G hk_p0 hr_p1 hr_p2 hr_p3 hr_v9_39 hr4 hr_p4 hM) sk_blind gX4_meet_X4_meetBetween rfl hdX4_meetBetween ⟨⟨rfl, rfl⟩, Nat.le_of_ble_eq_true rfl, Nat.le_of_ble_eq_true rfl⟩ (sk_recv hK hw hk_p0 (kd_in hk_p0) (by decide) rfl) (sk_pre hK hw) rfl hl.1 rfl (Nat.le_of_ble_eq_true rfl) (okX4_meet (88, .invokevirtual 86, 3) (List.mem_of_getElem? (i := 49) rfl)) ⟨Nat.zero_le _, Nat.zero_le _⟩) hw (fun r_88 I_88 H locs hr_r_88 hM hw => ?_)
      obtain ⟨hb_r_88, hM⟩ := hM
      refine sk_if_eq (tgt := 98) hx hb hr_r_88 (okX4_meet (91, .ifCond .eq 7, 3) (List.mem_of_getElem? (i := 50) rfl)) (by decide) (fun c91 => ?_) (fun c91 => ?_)
      · have hM := hM.1 c91
        refine lv_iconst (v := iI 0) hx hb (okX4_meet (98, .iconst 0, 1) (List.mem_of_getElem? (i := 53) rfl)) rfl ?_
        exact sk_zret hx hb hr0 hlocks hK hw (Or.inl rfl) hM (okX4_meet (99, .ireturn, 1) (List.mem_of_getElem? (i := 54) rfl))
      · have hM := hM.2 c91
        refine lv_iconst (v := iI 1) hx hb (okX4_meet (94, .iconst 1, 1) (List.mem_of_getElem? (i := 51) rfl)) rfl ?_
        refine lv_goto (tgt := 99) hx hb (okX4_meet (95, .goto 4, 3) (List.mem_of_getElem? (i := 52) rfl)) (by decide) ?_
        exact sk_zret hx hb hr0 hlocks hK hw (Or.inr rfl) hM (okX4_meet (99, .ireturn, 1) (List.mem_of_getElem? (i := 54) rfl))
def rmX3_noteMeetings : Room := { frames := 4, cells := 0, slots := 0, locals := 234 }
set_option maxHeartbeats 4000000 in
set_option maxRecDepth 100000 in
theorem c_Parting_noteMeetings (l : Launch) (G : sk_G) {p1 p2 : Int} (hk_p1 : kd p1 = 4) (hr_p2 : rI p2) {Q : sk_S → Prop} {I : sk_S} (hM : M_Parting_noteMeetings p1 p2 Q I) : Met l yX3_noteMeetings wsX3_noteMeetings rmX3_noteMeetings (va_Pc [.ref (sk_ad G 47), .ref (sk_ad G p1), .int (iI p2)] (sk_U G 198 sk_t I)) (sk_Qv G 198 sk_t Q) 0 0 (sk_A G) := by
  refine Met.ofW (cc := cX3_noteMeetings) (maxL := 7) (ret := none) (by decide) rfl ?_
  intro p e s m args below meth c s₁ B hml hv
  obtain ⟨rfl, hU, hK⟩ := hv
  have hx := B.exec
  have hb := B.bytes
  have hr0 := B.returns
  have hts := atoms_spec (ws := wsX3_noteMeetings) B.pre
  have hown : s.vm.findClass RX3 = some m.cls := findClass_of_methodNamed B.named
  have hlocks := B.notSynchronized
  have S : CallFix p m c cX3_noteMeetings 7 s ([.ref (sk_ad G 47), .ref (sk_ad G p1), .int (iI p2)].toArray) wsX3_noteMeetings RX3 := ⟨hx, hb, hml, hown, hts⟩
  have hL0 := hts (.fieldLink RX3 26 "SkyLights$Parting" "size" "I") (by decide +kernel)
  have hL1 := hts (.fieldLink RX3 14 "SkyLights$Parting" "meetings" "LSkyLights$Row;") (by decide +kernel)
  have hI3 : ∀ w ∈ u_ws RX3 TX3 6, w ∈ wsX3_noteMeetings := by decide +kernel
  have hw : sk_W G 198 sk_t I s s.heap [] := ⟨hU, va_S.rf⟩
  have hl := lv_entry ([.ref (sk_ad G 47), .ref (sk_ad G p1), .int (iI p2)]) (n := 7) (Nat.le_of_ble_eq_true rfl)
  rw [lg_entry_eq]
  generalize (lg_sl ([.ref (sk_ad G 47), .ref (sk_ad G p1), .int (iI p2)]) ++ List.replicate (7 - (lg_sl ([.ref (sk_ad G 47), .ref (sk_ad G p1), .int (iI p2)])).length) Slot.unset).toArray = ls at hl ⊢
  have hl : lv_has ls 7 [(0, .ref (sk_ad G 47)), (1, .ref (sk_ad G p1)), (2, .int (iI p2))] := hl
  suffices hgo : ∀ (H : Heap) (locs : List Loc), sk_W G 198 sk_t I s H locs → W p l e (headSpec wsX3_noteMeetings rmX3_noteMeetings).room s m ([.ref (sk_ad G 47), .ref (sk_ad G p1), .int (iI p2)].toArray) below meth c H locs 0 0 (MQ below (sk_Qv G 198 sk_t Q) ([.ref (sk_ad G 47), .ref (sk_ad G p1), .int (iI p2)].toArray) s 0 0 (sk_A G)) (F0 m 0 ls []) from hgo _ _ hw
  have hJ_2 : ∀ (v1 v2 v3 : Int) (I : sk_S), kd v1 = 4 → rI v2 → rI v3 → L_Parting_noteMeetings_2 v1 v2 Q v3 I → ∀ (H : Heap) (locs : List Loc) (ls : Array Slot), sk_W G 198 sk_t I s H locs → lv_has ls 7 [(0, .ref (sk_ad G 47)), (1, .ref (sk_ad G v1)), (2, .int (iI v2)), (3, .int (iI v3))] → W p l e (headSpec wsX3_noteMeetings rmX3_noteMeetings).room s m ([.ref (sk_ad G 47), .ref (sk_ad G p1), .int (iI p2)].toArray) below meth c H locs 0 0 (MQ below (sk_Qv G 198 sk_t Q) ([.ref (sk_ad G 47), .ref (sk_ad G p1), .int (iI p2)].toArray) s 0 0 (sk_A G)) (F0 m 2 ls []) := by
    intro v1 v2 v3 I hk_v1 hr_v2 hr_v3 hM H locs ls hw hl
    unfold L_Parting_noteMeetings_2 at hM
    obtain ⟨X_2, hX_2⟩ : ∃ X : Int → sk_S → Prop, ∀ (v3 : Int) (I : sk_S), X v3 I ↔ (rI v3 → ∀ (H : Heap) (locs : List Loc) (ls : Array Slot), sk_W G 198 sk_t I s H locs → lv_has ls 7 [(0, .ref (sk_ad G 47)), (1, .ref (sk_ad G v1)), (2, .int (iI v2)), (3, .int (iI v3))] → W p l e (headSpec wsX3_noteMeetings rmX3_noteMeetings).room s m ([.ref (sk_ad G 47), .ref (sk_ad G p1), .int (iI p2)].toArray) below meth c H locs 0 0 (MQ below (sk_Qv G 198 sk_t Q) ([.ref (sk_ad G 47), .ref (sk_ad G p1), .int (iI p2)].toArray) s 0 0 (sk_A G)) (F0 m 2 ls [])) := ⟨_, fun _ _ => Iff.rfl⟩
    have hJ_89 : ∀ (v3 : Int) (I : sk_S), rI v3 → J_Parting_noteMeetings_89 v1 v2 v3 Q X_2 I → ∀ (H : Heap) (locs : List Loc) (ls : Array Slot), sk_W G 198 sk_t I s H locs → lv_has ls 7 [(0, .ref (sk_ad G 47)), (1, .ref (sk_ad G v1)), (2, .int (iI v2)), (3, .int (iI v3))] → W p l e (headSpec wsX3_noteMeetings rmX3_noteMeetings).room s m ([.ref (sk_ad G 47), .ref (sk_ad G p1), .int (iI p2)].toArray) below meth c H locs 0 0 (MQ below (sk_Qv G 198 sk_t Q) ([.ref (sk_ad G 47), .ref (sk_ad G p1), .int (iI p2)].toArray) s 0 0 (sk_A G)) (F0 m 89 ls []) := by
      intro v3 I hr_v3 hM H locs ls hw hl
      unfold J_Parting_noteMeetings_89 at hM
      obtain ⟨hr7, hM⟩ := hM
      obtain ⟨v3_89, ev3_89⟩ : ∃ y : Int, y = v3 + 1 := ⟨_, rfl⟩
      have hM := hM v3_89 ev3_89
      have hr_v3_89 : rI v3_89 := by rw [ev3_89]; exact hr7
      refine lv_iinc (v := iI v3_89) (lv' := [(3, .int (iI v3_89)), (0, .ref (sk_ad G 47)), (1, .ref (sk_ad G v1)), (2, .int (iI v2))]) hx hb (okX3_noteMeetings (89, .iinc 3 1, 3) (List.mem_of_getElem? (i := 49) rfl)) hl (k := 3) rfl (by rw [ev3_89]; exact iI_add _ _) (by decide) rfl (fun ls hl => ?_)
      refine lv_goto (tgt := 2) hx hb (okX3_noteMeetings (92, .goto (-90), 3) (List.mem_of_getElem? (i := 50) rfl)) (by decide) ?_
      exact (hX_2 v3_89 I).1 hM hr_v3_89 H locs ls hw (lv_sub hl [1, 2, 3, 0] rfl)
    have hJ_15 : ∀ (v3 v4 : Int) (I : sk_S), rI v3 → rI v4 → L_Parting_noteMeetings_15 v1 v2 v3 Q X_2 v4 I → ∀ (H : Heap) (locs : List Loc) (ls : Array Slot), sk_W G 198 sk_t I s H locs → lv_has ls 7 [(0, .ref (sk_ad G 47)), (1, .ref (sk_ad G v1)), (2, .int (iI v2)), (3, .int (iI v3)), (4, .int (iI v4))] → W p l e (headSpec wsX3_noteMeetings rmX3_noteMeetings).room s m ([.ref (sk_ad G 47), .ref (sk_ad G p1), .int (iI p2)].toArray) below meth c H locs 0 0 (MQ below (sk_Qv G 198 sk_t Q) ([.ref (sk_ad G 47), .ref (sk_ad G p1), .int (iI p2)].toArray) s 0 0 (sk_A G)) (F0 m 15 ls []) := by
      intro v3 v4 I hr_v3 hr_v4 hM H locs ls hw hl
      unfold L_Parting_noteMeetings_15 at hM
      obtain ⟨X_15, hX_15⟩ : ∃ X : Int → sk_S → Prop, ∀ (v4 : Int) (I : sk_S), X v4 I ↔ (rI v4 → ∀ (H : Heap) (locs : List Loc) (ls : Array Slot), sk_W G 198 sk_t I s H locs → lv_has ls 7 [(0, .ref (sk_ad G 47)), (1, .ref (sk_ad G v1)), (2, .int (iI v2)), (3, .int (iI v3)), (4, .int (iI v4))] → W p l e (headSpec wsX3_noteMeetings rmX3_noteMeetings).room s m ([.ref (sk_ad G 47), .ref (sk_ad G p1), .int (iI p2)].toArray) below meth c H locs 0 0 (MQ below (sk_Qv G 198 sk_t Q) ([.ref (sk_ad G 47), .ref (sk_ad G p1), .int (iI p2)].toArray) s 0 0 (sk_A G)) (F0 m 15 ls [])) := ⟨_, fun _ _ => Iff.rfl⟩
      have hJ_67 : ∀ (v4 v5 : Int) (I : sk_S), rI v4 → rI v5 → J_Parting_noteMeetings_67 v1 v2 v3 v4 v5 Q X_2 X_15 I → ∀ (H : Heap) (locs : List Loc) (ls : Array Slot), sk_W G 198 sk_t I s H locs → lv_has ls 7 [(0, .ref (sk_ad G 47)), (1, .ref (sk_ad G v1)), (2, .int (iI v2)), (3, .int (iI v3)), (4, .int (iI v4)), (5, .int (iI v5))] → W p l e (headSpec wsX3_noteMeetings rmX3_noteMeetings).room s m ([.ref (sk_ad G 47), .ref (sk_ad G p1), .int (iI p2)].toArray) below meth c H locs 0 0 (MQ below (sk_Qv G 198 sk_t Q) ([.ref (sk_ad G 47), .ref (sk_ad G p1), .int (iI p2)].toArray) s 0 0 (sk_A G)) (F0 m 67 ls []) := by
        intro v4 v5 I hr_v4 hr_v5 hM H locs ls hw hl
        unfold J_Parting_noteMeetings_67 at hM
        refine lv_aload_n hx hb (okX3_noteMeetings (67, .aload_n 0, 1) (List.mem_of_getElem? (i := 38) rfl)) rfl (lv_at hl 0 rfl) ?_
        refine sk_getr (b := 48) S hK hw kdn_47 (kd_in kdn_47) (C := RX3) (T := TX3) (N := 6) rfl hI3 0 ⟨by decide, rfl, by decide, rfl⟩ rfl (k' := 0) rfl rfl (by decide +kernel) hL1 (okX3_noteMeetings (68, .getfield 14, 3) (List.mem_of_getElem? (i := 39) rfl)) ?_
        refine lv_iload_n hx hb (okX3_noteMeetings (71, .iload_n 3, 1) (List.mem_of_getElem? (i := 40) rfl)) rfl (lv_at hl 3 rfl) ?_
        refine lv_bipush (v := iI 10) hx hb (okX3_noteMeetings (72, .bipush 10, 2) (List.mem_of_getElem? (i := 41) rfl)) (by decide +kernel) ?_
        refine sk_imul hx hb (okX3_noteMeetings (74, .imul, 1) (List.mem_of_getElem? (i := 42) rfl)) ?_
        refine lv_iload hx hb (okX3_noteMeetings (75, .iload 4, 2) (List.mem_of_getElem? (i := 43) rfl)) (lv_at hl 4 rfl) ?_
        refine sk_iadd hx hb (okX3_noteMeetings (77, .iadd, 1) (List.mem_of_getElem? (i := 44) rfl)) ?_
        refine lv_iload hx hb (okX3_noteMeetings (78, .iload 5, 2) (List.mem_of_getElem? (i := 45) rfl)) (lv_at hl 5 rfl) ?_
        obtain ⟨hr5, hM⟩ := hM
        refine sk_cv (sk_runV (a := 48) (C := RX7) (As := [.int (iI ((v3 * 10) + v4)), .int (iI v5)]) (rest := []) S (c_Row_put l G kdn_48 hr5 hr_v5 hM) sk_blind gX3_noteMeetings_X7_put rfl hdX7_put ⟨⟨rfl, rfl⟩, Nat.le_of_ble_eq_true rfl, Nat.le_of_ble_eq_true rfl⟩ (sk_recv hK hw kdn_48 (kd_in kdn_48) (by decide) rfl) (sk_pre hK hw) rfl hl.1 rfl (Nat.le_of_ble_eq_true rfl) (okX3_noteMeetings (80, .invokevirtual 71, 3) (List.mem_of_getElem? (i := 46) rfl)) ⟨Nat.zero_le _, Nat.zero_le _⟩) hw (fun I_80 H locs hM hw => ?_)
        obtain ⟨hr6, hM⟩ := hM
        obtain ⟨v4_83, ev4_83⟩ : ∃ y : Int, y = v4 + 1 := ⟨_, rfl⟩
        have hM := hM v4_83 ev4_83
        have hr_v4_83 : rI v4_83 := by rw [ev4_83]; exact hr6
        refine lv_iinc (v := iI v4_83) (lv' := [(4, .int (iI v4_83)), (0, .ref (sk_ad G 47)), (1, .ref (sk_ad G v1)), (2, .int (iI v2)), (3, .int (iI v3)), (5, .int (iI v5))]) hx hb (okX3_noteMeetings (83, .iinc 4 1, 3) (List.mem_of_getElem? (i := 47) rfl)) hl (k := 4) rfl (by rw [ev4_83]; exact iI_add _ _) (by decide) rfl (fun ls hl => ?_)
        refine lv_goto (tgt := 15) hx hb (okX3_noteMeetings (86, .goto (-71), 3) (List.mem_of_getElem? (i := 48) rfl)) (by decide) ?_
        exact (hX_15 v4_83 I_80).1 hM hr_v4_83 H locs ls hw (lv_sub hl [1, 2, 3, 4, 0] rfl)
      have hJ_31 : ∀ (v4 v5 v6 : Int) (I : sk_S), rI v4 → rI v5 → rI v6 → L_Parting_noteMeetings_31 v1 v2 v3 v4 Q X_2 X_15 v5 v6 I → ∀ (H : Heap) (locs : List Loc) (ls : Array Slot), sk_W G 198 sk_t I s H locs → lv_has ls 7 [(0, .ref (sk_ad G 47)), (1, .ref (sk_ad G v1)), (2, .int (iI v2)), (3, .int (iI v3)), (4, .int (iI v4)), (5, .int (iI v5)), (6, .int (iI v6))] → W p l e (headSpec wsX3_noteMeetings rmX3_noteMeetings).room s m ([.ref (sk_ad G 47), .ref (sk_ad G p1), .int (iI p2)].toArray) below meth c H locs 0 0 (MQ below (sk_Qv G 198 sk_t Q) ([.ref (sk_ad G 47), .ref (sk_ad G p1), .int (iI p2)].toArray) s 0 0 (sk_A G)) (F0 m 31 ls []) := by
        intro v4 v5 v6 I hr_v4 hr_v5 hr_v6 hM H locs ls hw hl
        unfold L_Parting_noteMeetings_31 at hM
        obtain ⟨X_31, hX_31⟩ : ∃ X : Int → Int → sk_S → Prop, ∀ (v5 v6 : Int) (I : sk_S), X v5 v6 I ↔ (rI v5 → rI v6 → ∀ (H : Heap) (locs : List Loc) (ls : Array Slot), sk_W G 198 sk_t I s H locs → lv_has ls 7 [(0, .ref (sk_ad G 47)), (1, .ref (sk_ad G v1)), (2, .int (iI v2)), (3, .int (iI v3)), (4, .int (iI v4)), (5, .int (iI v5)), (6, .int (iI v6))] → W p l e (headSpec wsX3_noteMeetings rmX3_noteMeetings).room s m ([.ref (sk_ad G 47), .ref (sk_ad G p1), .int (iI p2)].toArray) below meth c H locs 0 0 (MQ below (sk_Qv G 198 sk_t Q) ([.ref (sk_ad G 47), .ref (sk_ad G p1), .int (iI p2)].toArray) s 0 0 (sk_A G)) (F0 m 31 ls [])) := ⟨_, fun _ _ _ => Iff.rfl⟩
        have hJ_61 : ∀ (v5 v6 : Int) (I : sk_S), rI v5 → rI v6 → J_Parting_noteMeetings_61 v1 v2 v3 v4 v5 v6 Q X_2 X_15 X_31 I → ∀ (H : Heap) (locs : List Loc) (ls : Array Slot), sk_W G 198 sk_t I s H locs → lv_has ls 7 [(0, .ref (sk_ad G 47)), (1, .ref (sk_ad G v1)), (2, .int (iI v2)), (3, .int (iI v3)), (4, .int (iI v4)), (5, .int (iI v5)), (6, .int (iI v6))] → W p l e (headSpec wsX3_noteMeetings rmX3_noteMeetings).room s m ([.ref (sk_ad G 47), .ref (sk_ad G p1), .int (iI p2)].toArray) below meth c H locs 0 0 (MQ below (sk_Qv G 198 sk_t Q) ([.ref (sk_ad G 47), .ref (sk_ad G p1), .int (iI p2)].toArray) s 0 0 (sk_A G)) (F0 m 61 ls []) := by
          intro v5 v6 I hr_v5 hr_v6 hM H locs ls hw hl
          unfold J_Parting_noteMeetings_61 at hM
          obtain ⟨hr4, hM⟩ := hM
          obtain ⟨v6_61, ev6_61⟩ : ∃ y : Int, y = v6 + 1 := ⟨_, rfl⟩
          have hM := hM v6_61 ev6_61
          have hr_v6_61 : rI v6_61 := by rw [ev6_61]; exact hr4
          refine lv_iinc (v := iI v6_61) (lv' := [(6, .int (iI v6_61)), (0, .ref (sk_ad G 47)), (1, .ref (sk_ad G v1)), (2, .int (iI v2)), (3, .int (iI v3)), (4, .int (iI v4)), (5, .int (iI v5))]) hx hb (okX3_noteMeetings (61, .iinc 6 1, 3) (List.mem_of_getElem? (i := 36) rfl)) hl (k := 6) rfl (by rw [ev6_61]; exact iI_add _ _) (by decide) rfl (fun ls hl => ?_)
          refine lv_goto (tgt := 31) hx hb (okX3_noteMeetings (64, .goto (-33), 3) (List.mem_of_getElem? (i := 37) rfl)) (by decide) ?_
          exact (hX_31 v5 v6_61 I).1 hM hr_v5 hr_v6_61 H locs ls hw (lv_sub hl [1, 2, 3, 4, 5, 6, 0] rfl)
        refine (hX_31 v5 v6 I).1 (hM X_31 (fun v5 v6 I hM => (hX_31 v5 v6 I).2 (fun hr_v5 hr_v6 H locs ls hw hl => ?_))) hr_v5 hr_v6 H locs ls hw hl
        refine lv_iload hx hb (okX3_noteMeetings (31, .iload 6, 2) (List.mem_of_getElem? (i := 18) rfl)) (lv_at hl 6 rfl) ?_
        refine lv_iconst (v := iI 3) hx hb (okX3_noteMeetings (33, .iconst 3, 1) (List.mem_of_getElem? (i := 19) rfl)) rfl ?_
        refine sk_icmp_gt (tgt := 67) hx hb hr_v6 (by decide) (okX3_noteMeetings (34, .if_icmp .gt 33, 3) (List.mem_of_getElem? (i := 20) rfl)) (by decide) (fun c34 => ?_) (fun c34 => ?_)
        · have hM := hM.1 c34
          exact hJ_67 v4 v5 I hr_v4 hr_v5 hM H locs ls hw (lv_sub hl [0, 1, 2, 3, 4, 5] rfl)
        · have hM := hM.2 c34
          refine lv_aload_n hx hb (okX3_noteMeetings (37, .aload_n 1, 1) (List.mem_of_getElem? (i := 21) rfl)) rfl (lv_at hl 1 rfl) ?_
          refine lv_iload_n hx hb (okX3_noteMeetings (38, .iload_n 3, 1) (List.mem_of_getElem? (i := 22) rfl)) rfl (lv_at hl 3 rfl) ?_
          refine lv_iload hx hb (okX3_noteMeetings (39, .iload 4, 2) (List.mem_of_getElem? (i := 23) rfl)) (lv_at hl 4 rfl) ?_
          refine lv_iload hx hb (okX3_noteMeetings (41, .iload 6, 2) (List.mem_of_getElem? (i := 24) rfl)) (lv_at hl 6 rfl) ?_
          refine lv_iload_n hx hb (okX3_noteMeetings (43, .iload_n 2, 1) (List.mem_of_getElem? (i := 25) rfl)) rfl (lv_at hl 2 rfl) ?_
          refine sk_ci (sk_runV (a := v1) (C := RX4) (As := [.int (iI v3), .int (iI v4), .int (iI v6), .int (iI v2)]) (rest := []) S (c_Pass_meet l G hk_v1 hr_v3 hr_v4 hr_v6 hr_v2 hM) sk_blind gX3_noteMeetings_X4_meet rfl hdX4_meet ⟨⟨rfl, rfl⟩, Nat.le_of_ble_eq_true rfl, Nat.le_of_ble_eq_true rfl⟩ (sk_recv hK hw hk_v1 (kd_in hk_v1) (by decide) rfl) (sk_pre hK hw) rfl hl.1 rfl (Nat.le_of_ble_eq_true rfl) (okX3_noteMeetings (44, .invokevirtual 67, 3) (List.mem_of_getElem? (i := 26) rfl)) ⟨Nat.zero_le _, Nat.zero_le _⟩) hw (fun r_44 I_44 H locs hr_r_44 hM hw => ?_)
          obtain ⟨hb_r_44, hM⟩ := hM
          refine sk_if_eq (tgt := 61) hx hb hr_r_44 (okX3_noteMeetings (47, .ifCond .eq 14, 3) (List.mem_of_getElem? (i := 27) rfl)) (by decide) (fun c47 => ?_) (fun c47 => ?_)
          · have hM := hM.1 c47
            exact hJ_61 v5 v6 I_44 hr_v5 hr_v6 hM H locs ls hw (lv_sub hl [0, 1, 2, 3, 4, 5, 6] rfl)
          · have hM := hM.2 c47
            refine lv_iload hx hb (okX3_noteMeetings (50, .iload 5, 2) (List.mem_of_getElem? (i := 28) rfl)) (lv_at hl 5 rfl) ?_
            refine lv_iconst (v := iI 1) hx hb (okX3_noteMeetings (52, .iconst 1, 1) (List.mem_of_getElem? (i := 29) rfl)) rfl ?_
            refine lv_iload hx hb (okX3_noteMeetings (53, .iload 6, 2) (List.mem_of_getElem? (i := 30) rfl)) (lv_at hl 6 rfl) ?_
            refine lv_iconst (v := iI 3) hx hb (okX3_noteMeetings (55, .iconst 3, 1) (List.mem_of_getElem? (i := 31) rfl)) rfl ?_
            refine sk_iadd hx hb (okX3_noteMeetings (56, .iadd, 1) (List.mem_of_getElem? (i := 32) rfl)) ?_
            refine sk_ishl hx hb (okX3_noteMeetings (57, .ishl, 1) (List.mem_of_getElem? (i := 33) rfl)) ?_
            refine sk_ior hx hb (okX3_noteMeetings (58, .ior, 1) (List.mem_of_getElem? (i := 34) rfl)) ?_
            refine sk_nm (fun v5_59 ev5_59 => ?_)
            have hM := hM v5_59 ev5_59
            have hr_v5_59 : rI v5_59 := by rw [ev5_59]; exact (rI_of _)
            refine lv_istore (lv' := [(5, .int (iI v5_59)), (0, .ref (sk_ad G 47)), (1, .ref (sk_ad G v1)), (2, .int (iI v2)), (3, .int (iI v3)), (4, .int (iI v4)), (6, .int (iI v6))]) hx hb (okX3_noteMeetings (59, .istore 5, 2) (List.mem_of_getElem? (i := 35) rfl)) hl (by decide) rfl (fun ls hl => ?_)
            exact hJ_61 v5_59 v6 I_44 hr_v5_59 hr_v6 hM H locs ls hw (lv_sub hl [1, 2, 3, 4, 5, 0, 6] rfl)
      refine (hX_15 v4 I).1 (hM X_15 (fun v4 I hM => (hX_15 v4 I).2 (fun hr_v4 H locs ls hw hl => ?_))) hr_v4 H locs ls hw hl
      refine lv_iload hx hb (okX3_noteMeetings (15, .iload 4, 2) (List.mem_of_getElem? (i := 10) rfl)) (lv_at hl 4 rfl) ?_
      refine lv_aload_n hx hb (okX3_noteMeetings (17, .aload_n 0, 1) (List.mem_of_getElem? (i := 11) rfl)) rfl (lv_at hl 0 rfl) ?_
      have hr3 := hw.1.2.2 47 3
      refine sk_geti S hK hw kdn_47 (kd_in kdn_47) (C := RX3) (T := TX3) (N := 6) rfl hI3 3 ⟨by decide, rfl, by decide, rfl⟩ rfl (k' := 3) rfl hL0 (okX3_noteMeetings (18, .getfield 26, 3) (List.mem_of_getElem? (i := 12) rfl)) ?_
      refine sk_icmp_ge (tgt := 89) hx hb hr_v4 hr3 (okX3_noteMeetings (21, .if_icmp .ge 68, 3) (List.mem_of_getElem? (i := 13) rfl)) (by decide) (fun c21 => ?_) (fun c21 => ?_)
      · have hM := hM.1 c21
        exact hJ_89 v3 I hr_v3 hM H locs ls hw (lv_sub hl [0, 1, 2, 3] rfl)
      · have hM := hM.2 c21
        refine lv_iconst (v := iI 0) hx hb (okX3_noteMeetings (24, .iconst 0, 1) (List.mem_of_getElem? (i := 14) rfl)) rfl ?_
        refine lv_istore (lv' := [(5, .int (iI 0)), (0, .ref (sk_ad G 47)), (1, .ref (sk_ad G v1)), (2, .int (iI v2)), (3, .int (iI v3)), (4, .int (iI v4))]) hx hb (okX3_noteMeetings (25, .istore 5, 2) (List.mem_of_getElem? (i := 15) rfl)) hl (by decide) rfl (fun ls hl => ?_)
        refine lv_bipush (v := iI (-3)) hx hb (okX3_noteMeetings (27, .bipush (-3), 2) (List.mem_of_getElem? (i := 16) rfl)) (by decide +kernel) ?_
        refine lv_istore (lv' := [(6, .int (iI ((-3)))), (5, .int (iI 0)), (0, .ref (sk_ad G 47)), (1, .ref (sk_ad G v1)), (2, .int (iI v2)), (3, .int (iI v3)), (4, .int (iI v4))]) hx hb (okX3_noteMeetings (29, .istore 6, 2) (List.mem_of_getElem? (i := 17) rfl)) hl (by decide) rfl (fun ls hl => ?_)
        exact hJ_31 v4 0 ((-3)) I hr_v4 (by decide) (by decide) hM H locs ls hw (lv_sub hl [2, 3, 4, 5, 6, 1, 0] rfl)
    refine (hX_2 v3 I).1 (hM X_2 (fun v3 I hM => (hX_2 v3 I).2 (fun hr_v3 H locs ls hw hl => ?_))) hr_v3 H locs ls hw hl
    refine lv_iload_n hx hb (okX3_noteMeetings (2, .iload_n 3, 1) (List.mem_of_getElem? (i := 2) rfl)) rfl (lv_at hl 3 rfl) ?_
    refine lv_aload_n hx hb (okX3_noteMeetings (3, .aload_n 0, 1) (List.mem_of_getElem? (i := 3) rfl)) rfl (lv_at hl 0 rfl) ?_
    have hr1 := hw.1.2.2 47 3
    refine sk_geti S hK hw kdn_47 (kd_in kdn_47) (C := RX3) (T := TX3) (N := 6) rfl hI3 3 ⟨by decide, rfl, by decide, rfl⟩ rfl (k' := 3) rfl hL0 (okX3_noteMeetings (4, .getfield 26, 3) (List.mem_of_getElem? (i := 4) rfl)) ?_
    refine sk_icmp_ge (tgt := 95) hx hb hr_v3 hr1 (okX3_noteMeetings (7, .if_icmp .ge 88, 3) (List.mem_of_getElem? (i := 5) rfl)) (by decide) (fun c7 => ?_) (fun c7 => ?_)
    · have hM := hM.1 c7
      exact sk_vret hx hb hr0 hlocks hK hw hM (okX3_noteMeetings (95, .return_, 1) (List.mem_of_getElem? (i := 51) rfl))
    · have hM := hM.2 c7
      refine lv_iload_n hx hb (okX3_noteMeetings (10, .iload_n 3, 1) (List.mem_of_getElem? (i := 6) rfl)) rfl (lv_at hl 3 rfl) ?_
      refine lv_iconst (v := iI 1) hx hb (okX3_noteMeetings (11, .iconst 1, 1) (List.mem_of_getElem? (i := 7) rfl)) rfl ?_
      refine sk_iadd hx hb (okX3_noteMeetings (12, .iadd, 1) (List.mem_of_getElem? (i := 8) rfl)) ?_
      obtain ⟨hr2, hM⟩ := hM
      refine sk_nm (fun v4_13 ev4_13 => ?_)
      have hM := hM v4_13 ev4_13
      have hr_v4_13 : rI v4_13 := by rw [ev4_13]; exact hr2
      refine lv_istore (lv' := [(4, .int (iI v4_13)), (0, .ref (sk_ad G 47)), (1, .ref (sk_ad G v1)), (2, .int (iI v2)), (3, .int (iI v3))]) hx hb (okX3_noteMeetings (13, .istore 4, 2) (List.mem_of_getElem? (i := 9) rfl)) hl (by decide) rfl (fun ls hl => ?_)
      exact hJ_15 v3 v4_13 I hr_v3 hr_v4_13 hM H locs ls hw (lv_sub hl [1, 2, 3, 4, 0] rfl)
  unfold M_Parting_noteMeetings at hM
  intro H locs hw
  refine lv_iconst (v := iI 0) hx hb (okX3_noteMeetings (0, .iconst 0, 1) (List.mem_of_getElem? (i := 0) rfl)) rfl ?_
  refine lv_istore_n (lv' := [(3, .int (iI 0)), (0, .ref (sk_ad G 47)), (1, .ref (sk_ad G p1)), (2, .int (iI p2))]) hx hb (okX3_noteMeetings (1, .istore_n 3, 1) (List.mem_of_getElem? (i := 1) rfl)) rfl hl (by decide) rfl (fun ls hl => ?_)
  exact hJ_2 p1 p2 0 I hk_p1 hr_p2 (by decide) hM H locs ls hw (lv_sub hl [1, 2, 3, 0] rfl)
def rmsearch (d : Nat) : Room := { frames := 3 + d, cells := 0, slots := 0, locals := 162 + d * 60 }
set_option maxHeartbeats 4000000 in
set_option maxRecDepth 100000 in
theorem c_Parting_search (l : Launch) (G : sk_G) : ∀ (d : Nat) {p1 p2 : Int} (hr_p1 : rI p1) (hr_p2 : rI p2) {Q : sk_S → Prop} {I : sk_S} (hM : M_Parting_search d p1 p2 Q I), Met l yX3_search wsX3_search (rmsearch d) (va_Pc [.ref (sk_ad G 47), .int (iI p1), .int (iI p2)] (sk_U G 198 sk_t I)) (sk_Qv G 198 sk_t Q) 0 0 (sk_A G) := by
  intro d
  induction d with
  | zero => intro p1 p2 hr_p1 hr_p2 Q I hM; exact hM.elim
  | succ d ih =>
  intro p1 p2 hr_p1 hr_p2 Q I hM
  refine Met.ofW (cc := cX3_search) (maxL := 4) (ret := none) (by decide) rfl ?_
  intro p e s m args below meth c s₁ B hml hv
  obtain ⟨rfl, hU, hK⟩ := hv
  have hx := B.exec
  have hb := B.bytes
  have hr0 := B.returns
  have hts := atoms_spec (ws := wsX3_search) B.pre
  have hown : s.vm.findClass RX3 = some m.cls := findClass_of_methodNamed B.named
  have hlocks := B.notSynchronized
  have S : CallFix p m c cX3_search 4 s ([.ref (sk_ad G 47), .int (iI p1), .int (iI p2)].toArray) wsX3_search RX3 := ⟨hx, hb, hml, hown, hts⟩
  have hL0 := hts (.fieldLink RX3 33 "SkyLights$Parting" "leastSum" "I") (by decide +kernel)
  have hL1 := hts (.fieldLink RX3 30 "SkyLights$Parting" "free" "I") (by decide +kernel)
  have hL2 := hts (.fieldLink RX3 20 "SkyLights$Parting" "tried" "LSkyLights$Row;") (by decide +kernel)
  have hI3 : ∀ w ∈ u_ws RX3 TX3 6, w ∈ wsX3_search := by decide +kernel
  have hw : sk_W G 198 sk_t I s s.heap [] := ⟨hU, va_S.rf⟩
  have hl := lv_entry ([.ref (sk_ad G 47), .int (iI p1), .int (iI p2)]) (n := 4) (Nat.le_of_ble_eq_true rfl)
  rw [lg_entry_eq]
  generalize (lg_sl ([.ref (sk_ad G 47), .int (iI p1), .int (iI p2)]) ++ List.replicate (4 - (lg_sl ([.ref (sk_ad G 47), .int (iI p1), .int (iI p2)])).length) Slot.unset).toArray = ls at hl ⊢
  have hl : lv_has ls 4 [(0, .ref (sk_ad G 47)), (1, .int (iI p1)), (2, .int (iI p2))] := hl
  suffices hgo : ∀ (H : Heap) (locs : List Loc), sk_W G 198 sk_t I s H locs → W p l e (headSpec wsX3_search (rmsearch (d + 1))).room s m ([.ref (sk_ad G 47), .int (iI p1), .int (iI p2)].toArray) below meth c H locs 0 0 (MQ below (sk_Qv G 198 sk_t Q) ([.ref (sk_ad G 47), .int (iI p1), .int (iI p2)].toArray) s 0 0 (sk_A G)) (F0 m 0 ls []) from hgo _ _ hw
  have hJ_25 : ∀ (v1 v2 v3 : Int) (I : sk_S), rI v1 → rI v2 → rI v3 → L_Parting_search_25 (M_Parting_search d) v1 v2 Q v3 I → ∀ (H : Heap) (locs : List Loc) (ls : Array Slot), sk_W G 198 sk_t I s H locs → lv_has ls 4 [(0, .ref (sk_ad G 47)), (1, .int (iI v1)), (2, .int (iI v2)), (3, .int (iI v3))] → W p l e (headSpec wsX3_search (rmsearch (d + 1))).room s m ([.ref (sk_ad G 47), .int (iI p1), .int (iI p2)].toArray) below meth c H locs 0 0 (MQ below (sk_Qv G 198 sk_t Q) ([.ref (sk_ad G 47), .int (iI p1), .int (iI p2)].toArray) s 0 0 (sk_A G)) (F0 m 25 ls []) := by
    intro v1 v2 v3 I hr_v1 hr_v2 hr_v3 hM H locs ls hw hl
    unfold L_Parting_search_25 at hM
    obtain ⟨X_25, hX_25⟩ : ∃ X : Int → sk_S → Prop, ∀ (v3 : Int) (I : sk_S), X v3 I ↔ (rI v3 → ∀ (H : Heap) (locs : List Loc) (ls : Array Slot), sk_W G 198 sk_t I s H locs → lv_has ls 4 [(0, .ref (sk_ad G 47)), (1, .int (iI v1)), (2, .int (iI v2)), (3, .int (iI v3))] → W p l e (headSpec wsX3_search (rmsearch (d + 1))).room s m ([.ref (sk_ad G 47), .int (iI p1), .int (iI p2)].toArray) below meth c H locs 0 0 (MQ below (sk_Qv G 198 sk_t Q) ([.ref (sk_ad G 47), .int (iI p1), .int (iI p2)].toArray) s 0 0 (sk_A G)) (F0 m 25 ls [])) := ⟨_, fun _ _ => Iff.rfl⟩
    have hJ_57 : ∀ (v3 : Int) (I : sk_S), rI v3 → J_Parting_search_57 (M_Parting_search d) v1 v2 v3 Q X_25 I → ∀ (H : Heap) (locs : List Loc) (ls : Array Slot), sk_W G 198 sk_t I s H locs → lv_has ls 4 [(0, .ref (sk_ad G 47)), (1, .int (iI v1)), (2, .int (iI v2)), (3, .int (iI v3))] → W p l e (headSpec wsX3_search (rmsearch (d + 1))).room s m ([.ref (sk_ad G 47), .int (iI p1), .int (iI p2)].toArray) below meth c H locs 0 0 (MQ below (sk_Qv G 198 sk_t Q) ([.ref (sk_ad G 47), .int (iI p1), .int (iI p2)].toArray) s 0 0 (sk_A G)) (F0 m 57 ls []) := by
      intro v3 I hr_v3 hM H locs ls hw hl
      unfold J_Parting_search_57 at hM
      obtain ⟨hr5, hM⟩ := hM
      obtain ⟨v3_57, ev3_57⟩ : ∃ y : Int, y = v3 + 1 := ⟨_, rfl⟩
      have hM := hM v3_57 ev3_57
      have hr_v3_57 : rI v3_57 := by rw [ev3_57]; exact hr5
      refine lv_iinc (v := iI v3_57) (lv' := [(3, .int (iI v3_57)), (0, .ref (sk_ad G 47)), (1, .int (iI v1)), (2, .int (iI v2))]) hx hb (okX3_search (57, .iinc 3 1, 3) (List.mem_of_getElem? (i := 35) rfl)) hl (k := 3) rfl (by rw [ev3_57]; exact iI_add _ _) (by decide) rfl (fun ls hl => ?_)
      refine lv_goto (tgt := 25) hx hb (okX3_search (60, .goto (-35), 3) (List.mem_of_getElem? (i := 36) rfl)) (by decide) ?_
      exact (hX_25 v3_57 I).1 hM hr_v3_57 H locs ls hw (lv_sub hl [1, 2, 3, 0] rfl)
    refine (hX_25 v3 I).1 (hM X_25 (fun v3 I hM => (hX_25 v3 I).2 (fun hr_v3 H locs ls hw hl => ?_))) hr_v3 H locs ls hw hl
    refine lv_iload_n hx hb (okX3_search (25, .iload_n 3, 1) (List.mem_of_getElem? (i := 15) rfl)) rfl (lv_at hl 3 rfl) ?_
    refine lv_iconst (v := iI 3) hx hb (okX3_search (26, .iconst 3, 1) (List.mem_of_getElem? (i := 16) rfl)) rfl ?_
    refine sk_icmp_gt (tgt := 63) hx hb hr_v3 (by decide) (okX3_search (27, .if_icmp .gt 36, 3) (List.mem_of_getElem? (i := 17) rfl)) (by decide) (fun c27 => ?_) (fun c27 => ?_)
    · have hM := hM.1 c27
      exact sk_vret hx hb hr0 hlocks hK hw hM (okX3_search (63, .return_, 1) (List.mem_of_getElem? (i := 37) rfl))
    · have hM := hM.2 c27
      refine lv_aload_n hx hb (okX3_search (30, .aload_n 0, 1) (List.mem_of_getElem? (i := 18) rfl)) rfl (lv_at hl 0 rfl) ?_
      refine sk_getr (b := 50) S hK hw kdn_47 (kd_in kdn_47) (C := RX3) (T := TX3) (N := 6) rfl hI3 1 ⟨by decide, rfl, by decide, rfl⟩ rfl (k' := 1) rfl rfl (by decide +kernel) hL2 (okX3_search (31, .getfield 20, 3) (List.mem_of_getElem? (i := 19) rfl)) ?_
      refine lv_iload_n hx hb (okX3_search (34, .iload_n 1, 1) (List.mem_of_getElem? (i := 20) rfl)) rfl (lv_at hl 1 rfl) ?_
      refine lv_iload_n hx hb (okX3_search (35, .iload_n 3, 1) (List.mem_of_getElem? (i := 21) rfl)) rfl (lv_at hl 3 rfl) ?_
      refine sk_cv (sk_runV (a := 50) (C := RX7) (As := [.int (iI v1), .int (iI v3)]) (rest := []) S (c_Row_put l G kdn_50 hr_v1 hr_v3 hM) sk_blind gX3_search_X7_put rfl hdX7_put ⟨⟨rfl, rfl⟩, by show 0 + 1 ≤ 3 + (d + 1); omega, by show 40 + (3 + 11) + 0 ≤ 162 + (d + 1) * 60; omega⟩ (sk_recv hK hw kdn_50 (kd_in kdn_50) (by decide) rfl) (sk_pre hK hw) rfl hl.1 rfl (Nat.le_of_ble_eq_true rfl) (okX3_search (36, .invokevirtual 71, 3) (List.mem_of_getElem? (i := 22) rfl)) ⟨Nat.zero_le _, Nat.zero_le _⟩) hw (fun I_36 H locs hM hw => ?_)
      refine lv_aload_n hx hb (okX3_search (39, .aload_n 0, 1) (List.mem_of_getElem? (i := 23) rfl)) rfl (lv_at hl 0 rfl) ?_
      refine lv_iload_n hx hb (okX3_search (40, .iload_n 1, 1) (List.mem_of_getElem? (i := 24) rfl)) rfl (lv_at hl 1 rfl) ?_
      refine sk_ci (sk_runV (a := 47) (C := RX3) (As := [.int (iI v1)]) (rest := []) S (c_Parting_doesFit l G hr_v1 hM) sk_blind gX3_search_X3_doesFit rfl hdX3_doesFit ⟨⟨rfl, rfl⟩, by show 2 + 1 ≤ 3 + (d + 1); omega, by show 40 + (3 + 11) + 108 ≤ 162 + (d + 1) * 60; omega⟩ (sk_recv hK hw kdn_47 (kd_in kdn_47) (by decide) rfl) (sk_pre hK hw) rfl hl.1 rfl (Nat.le_of_ble_eq_true rfl) (okX3_search (41, .invokevirtual 81, 3) (List.mem_of_getElem? (i := 25) rfl)) ⟨Nat.zero_le _, Nat.zero_le _⟩) hw (fun r_41 I_41 H locs hr_r_41 hM hw => ?_)
      obtain ⟨hb_r_41, hM⟩ := hM
      refine sk_if_eq (tgt := 57) hx hb hr_r_41 (okX3_search (44, .ifCond .eq 13, 3) (List.mem_of_getElem? (i := 26) rfl)) (by decide) (fun c44 => ?_) (fun c44 => ?_)
      · have hM := hM.1 c44
        exact hJ_57 v3 I_41 hr_v3 hM H locs ls hw (lv_sub hl [0, 1, 2, 3] rfl)
      · have hM := hM.2 c44
        refine lv_aload_n hx hb (okX3_search (47, .aload_n 0, 1) (List.mem_of_getElem? (i := 27) rfl)) rfl (lv_at hl 0 rfl) ?_
        refine lv_iload_n hx hb (okX3_search (48, .iload_n 1, 1) (List.mem_of_getElem? (i := 28) rfl)) rfl (lv_at hl 1 rfl) ?_
        refine lv_iconst (v := iI 1) hx hb (okX3_search (49, .iconst 1, 1) (List.mem_of_getElem? (i := 29) rfl)) rfl ?_
        refine sk_iadd hx hb (okX3_search (50, .iadd, 1) (List.mem_of_getElem? (i := 30) rfl)) ?_
        refine lv_iload_n hx hb (okX3_search (51, .iload_n 2, 1) (List.mem_of_getElem? (i := 31) rfl)) rfl (lv_at hl 2 rfl) ?_
        refine lv_iload_n hx hb (okX3_search (52, .iload_n 3, 1) (List.mem_of_getElem? (i := 32) rfl)) rfl (lv_at hl 3 rfl) ?_
        refine sk_iadd hx hb (okX3_search (53, .iadd, 1) (List.mem_of_getElem? (i := 33) rfl)) ?_
        obtain ⟨hr3, hM⟩ := hM
        obtain ⟨hr4, hM⟩ := hM
        refine sk_cv (sk_runS (As := [.ref (sk_ad G 47), .int (iI (v1 + 1)), .int (iI (v2 + v3))]) (rest := []) S (ih hr3 hr4 hM) sk_blind gX3_search_X3_search rfl hdX3_search ⟨⟨rfl, rfl⟩, by show (3 + d) + 1 ≤ 3 + (d + 1); omega, by show 40 + (4 + 11) + (162 + d * 60) ≤ 162 + (d + 1) * 60; omega⟩ (sk_pre hK hw) rfl hl.1 rfl (Nat.le_of_ble_eq_true rfl) (okX3_search (54, .invokestatic 55, 3) (List.mem_of_getElem? (i := 34) rfl)) ⟨Nat.zero_le _, Nat.zero_le _⟩) hw (fun I_54 H locs hM hw => ?_)
        exact hJ_57 v3 I_54 hr_v3 hM H locs ls hw (lv_sub hl [0, 1, 2, 3] rfl)
  intro H locs hw
  refine lv_iload_n hx hb (okX3_search (0, .iload_n 2, 1) (List.mem_of_getElem? (i := 0) rfl)) rfl (lv_at hl 2 rfl) ?_
  refine lv_aload_n hx hb (okX3_search (1, .aload_n 0, 1) (List.mem_of_getElem? (i := 1) rfl)) rfl (lv_at hl 0 rfl) ?_
  have hr1 := hw.1.2.2 47 5
  refine sk_geti S hK hw kdn_47 (kd_in kdn_47) (C := RX3) (T := TX3) (N := 6) rfl hI3 5 ⟨by decide, rfl, by decide, rfl⟩ rfl (k' := 5) rfl hL0 (okX3_search (2, .getfield 33, 3) (List.mem_of_getElem? (i := 2) rfl)) ?_
  refine sk_icmp_lt (tgt := 9) hx hb hr_p2 hr1 (okX3_search (5, .if_icmp .lt 4, 3) (List.mem_of_getElem? (i := 3) rfl)) (by decide) (fun c5 => ?_) (fun c5 => ?_)
  · have hM := hM.1 c5
    refine lv_iload_n hx hb (okX3_search (9, .iload_n 1, 1) (List.mem_of_getElem? (i := 5) rfl)) rfl (lv_at hl 1 rfl) ?_
    refine lv_aload_n hx hb (okX3_search (10, .aload_n 0, 1) (List.mem_of_getElem? (i := 6) rfl)) rfl (lv_at hl 0 rfl) ?_
    have hr2 := hw.1.2.2 47 4
    refine sk_geti S hK hw kdn_47 (kd_in kdn_47) (C := RX3) (T := TX3) (N := 6) rfl hI3 4 ⟨by decide, rfl, by decide, rfl⟩ rfl (k' := 4) rfl hL1 (okX3_search (11, .getfield 30, 3) (List.mem_of_getElem? (i := 7) rfl)) ?_
    refine sk_icmp_lt (tgt := 23) hx hb hr_p1 hr2 (okX3_search (14, .if_icmp .lt 9, 3) (List.mem_of_getElem? (i := 8) rfl)) (by decide) (fun c14 => ?_) (fun c14 => ?_)
    · have hM := hM.1 c14
      refine lv_iconst (v := iI 0) hx hb (okX3_search (23, .iconst 0, 1) (List.mem_of_getElem? (i := 13) rfl)) rfl ?_
      refine lv_istore_n (lv' := [(3, .int (iI 0)), (0, .ref (sk_ad G 47)), (1, .int (iI p1)), (2, .int (iI p2))]) hx hb (okX3_search (24, .istore_n 3, 1) (List.mem_of_getElem? (i := 14) rfl)) rfl hl (by decide) rfl (fun ls hl => ?_)
      exact hJ_25 p1 p2 0 I hr_p1 hr_p2 (by decide) hM H locs ls hw (lv_sub hl [1, 2, 3, 0] rfl)
    · have hM := hM.2 c14
      refine lv_aload_n hx hb (okX3_search (17, .aload_n 0, 1) (List.mem_of_getElem? (i := 9) rfl)) rfl (lv_at hl 0 rfl) ?_
      refine lv_iload_n hx hb (okX3_search (18, .iload_n 2, 1) (List.mem_of_getElem? (i := 10) rfl)) rfl (lv_at hl 2 rfl) ?_
      refine sk_cv (sk_runV (a := 47) (C := RX3) (As := [.int (iI p2)]) (rest := []) S (c_Parting_keepTried l G hr_p2 hM) sk_blind gX3_search_X3_keepTried rfl hdX3_keepTried ⟨⟨rfl, rfl⟩, by show 1 + 1 ≤ 3 + (d + 1); omega, by show 40 + (3 + 11) + 54 ≤ 162 + (d + 1) * 60; omega⟩ (sk_recv hK hw kdn_47 (kd_in kdn_47) (by decide) rfl) (sk_pre hK hw) rfl hl.1 rfl (Nat.le_of_ble_eq_true rfl) (okX3_search (19, .invokevirtual 78, 3) (List.mem_of_getElem? (i := 11) rfl)) ⟨Nat.zero_le _, Nat.zero_le _⟩) hw (fun I_19 H locs hM hw => ?_)
      exact sk_vret hx hb hr0 hlocks hK hw hM (okX3_search (22, .return_, 1) (List.mem_of_getElem? (i := 12) rfl))
  · have hM := hM.2 c5
    exact sk_vret hx hb hr0 hlocks hK hw hM (okX3_search (8, .return_, 1) (List.mem_of_getElem? (i := 4) rfl))
def rmX4_setDelay : Room := { frames := 1, cells := 0, slots := 0, locals := 54 }
set_option maxHeartbeats 4000000 in
set_option maxRecDepth 100000 in
theorem c_Pass_setDelay (l : Launch) (G : sk_G) {p0 p1 p2 : Int} (hk_p0 : kd p0 = 4) (hr_p1 : rI p1) (hr_p2 : rI p2) {Q : sk_S → Prop} {I : sk_S} (hM : M_Pass_setDelay p0 p1 p2 Q I) : Met l yX4_setDelay wsX4_setDelay rmX4_setDelay (va_Pc [.ref (sk_ad G p0), .int (iI p1), .int (iI p2)] (sk_U G 198 sk_t I)) (sk_Qv G 198 sk_t Q) 0 0 (sk_A G) := by
  refine Met.ofW (cc := cX4_setDelay) (maxL := 3) (ret := none) (by decide) rfl ?_
  intro p e s m args below meth c s₁ B hml hv
  obtain ⟨rfl, hU, hK⟩ := hv
  have hx := B.exec
  have hb := B.bytes
  have hr0 := B.returns
  have hts := atoms_spec (ws := wsX4_setDelay) B.pre
  have hown : s.vm.findClass RX4 = some m.cls := findClass_of_methodNamed B.named
  have hlocks := B.notSynchronized
  have S : CallFix p m c cX4_setDelay 3 s ([.ref (sk_ad G p0), .int (iI p1), .int (iI p2)].toArray) wsX4_setDelay RX4 := ⟨hx, hb, hml, hown, hts⟩
  have hL0 := hts (.fieldLink RX4 16 "SkyLights$Pass" "cells" "LSkyLights$Row;") (by decide +kernel)
  have hI4 : ∀ w ∈ u_ws RX4 TX4 3, w ∈ wsX4_setDelay := by decide +kernel
  have hw : sk_W G 198 sk_t I s s.heap [] := ⟨hU, va_S.rf⟩
  have hl := lv_entry ([.ref (sk_ad G p0), .int (iI p1), .int (iI p2)]) (n := 3) (Nat.le_of_ble_eq_true rfl)
  rw [lg_entry_eq]
  generalize (lg_sl ([.ref (sk_ad G p0), .int (iI p1), .int (iI p2)]) ++ List.replicate (3 - (lg_sl ([.ref (sk_ad G p0), .int (iI p1), .int (iI p2)])).length) Slot.unset).toArray = ls at hl ⊢
  have hl : lv_has ls 3 [(0, .ref (sk_ad G p0)), (1, .int (iI p1)), (2, .int (iI p2))] := hl
  suffices hgo : ∀ (H : Heap) (locs : List Loc), sk_W G 198 sk_t I s H locs → W p l e (headSpec wsX4_setDelay rmX4_setDelay).room s m ([.ref (sk_ad G p0), .int (iI p1), .int (iI p2)].toArray) below meth c H locs 0 0 (MQ below (sk_Qv G 198 sk_t Q) ([.ref (sk_ad G p0), .int (iI p1), .int (iI p2)].toArray) s 0 0 (sk_A G)) (F0 m 0 ls []) from hgo _ _ hw
  unfold M_Pass_setDelay at hM
  intro H locs hw
  refine lv_aload_n hx hb (okX4_setDelay (0, .aload_n 0, 1) (List.mem_of_getElem? (i := 0) rfl)) rfl (lv_at hl 0 rfl) ?_
  refine sk_getr (b := (p0 + 1)) S hK hw hk_p0 (kd_in hk_p0) (C := RX4) (T := TX4) (N := 3) rfl hI4 0 ⟨by decide, rfl, by decide, rfl⟩ rfl (k' := 0) rfl rfl (rf4 hk_p0) hL0 (okX4_setDelay (1, .getfield 16, 3) (List.mem_of_getElem? (i := 1) rfl)) ?_
  refine lv_iload_n hx hb (okX4_setDelay (4, .iload_n 1, 1) (List.mem_of_getElem? (i := 2) rfl)) rfl (lv_at hl 1 rfl) ?_
  refine lv_bipush (v := iI 8) hx hb (okX4_setDelay (5, .bipush 8, 2) (List.mem_of_getElem? (i := 3) rfl)) (by decide +kernel) ?_
  refine sk_imul hx hb (okX4_setDelay (7, .imul, 1) (List.mem_of_getElem? (i := 4) rfl)) ?_
  refine lv_bipush (v := iI 7) hx hb (okX4_setDelay (8, .bipush 7, 2) (List.mem_of_getElem? (i := 5) rfl)) (by decide +kernel) ?_
  refine sk_iadd hx hb (okX4_setDelay (10, .iadd, 1) (List.mem_of_getElem? (i := 6) rfl)) ?_
  refine lv_iload_n hx hb (okX4_setDelay (11, .iload_n 2, 1) (List.mem_of_getElem? (i := 7) rfl)) rfl (lv_at hl 2 rfl) ?_
  obtain ⟨hr1, hM⟩ := hM
  refine sk_cv (sk_runV (a := (p0 + 1)) (C := RX7) (As := [.int (iI ((p1 * 8) + 7)), .int (iI p2)]) (rest := []) S (c_Row_put l G (k4 hk_p0) hr1 hr_p2 hM) sk_blind gX4_setDelay_X7_put rfl hdX7_put ⟨⟨rfl, rfl⟩, Nat.le_of_ble_eq_true rfl, Nat.le_of_ble_eq_true rfl⟩ (sk_recv hK hw (k4 hk_p0) (kd_in (k4 hk_p0)) (by decide) rfl) (sk_pre hK hw) rfl hl.1 rfl (Nat.le_of_ble_eq_true rfl) (okX4_setDelay (12, .invokevirtual 31, 3) (List.mem_of_getElem? (i := 8) rfl)) ⟨Nat.zero_le _, Nat.zero_le _⟩) hw (fun I_12 H locs hM hw => ?_)
  exact sk_vret hx hb hr0 hlocks hK hw hM (okX4_setDelay (15, .return_, 1) (List.mem_of_getElem? (i := 9) rfl))
def rmX4_size : Room := { frames := 0, cells := 0, slots := 0, locals := 0 }
set_option maxHeartbeats 4000000 in
set_option maxRecDepth 100000 in
theorem c_Pass_size (l : Launch) (G : sk_G) {p0 : Int} (hk_p0 : kd p0 = 4) {Q : Int → sk_S → Prop} {I : sk_S} (hM : M_Pass_size p0 Q I) : Met l yX4_size wsX4_size rmX4_size (va_Pc [.ref (sk_ad G p0)] (sk_U G 198 sk_t I)) (sk_Qi G 198 sk_t Q) 0 0 (sk_A G) := by
  refine Met.ofW (cc := cX4_size) (maxL := 1) (ret := (some .int)) (by decide) rfl ?_
  intro p e s m args below meth c s₁ B hml hv
  obtain ⟨rfl, hU, hK⟩ := hv
  have hx := B.exec
  have hb := B.bytes
  have hr0 := B.returns
  have hts := atoms_spec (ws := wsX4_size) B.pre
  have hown : s.vm.findClass RX4 = some m.cls := findClass_of_methodNamed B.named
  have hlocks := B.notSynchronized
  have S : CallFix p m c cX4_size 1 s ([.ref (sk_ad G p0)].toArray) wsX4_size RX4 := ⟨hx, hb, hml, hown, hts⟩
  have hL0 := hts (.fieldLink RX4 20 "SkyLights$Pass" "size" "I") (by decide +kernel)
  have hI4 : ∀ w ∈ u_ws RX4 TX4 3, w ∈ wsX4_size := by decide +kernel
  have hw : sk_W G 198 sk_t I s s.heap [] := ⟨hU, va_S.rf⟩
  have hl := lv_entry ([.ref (sk_ad G p0)]) (n := 1) (Nat.le_of_ble_eq_true rfl)
  rw [lg_entry_eq]
  generalize (lg_sl ([.ref (sk_ad G p0)]) ++ List.replicate (1 - (lg_sl ([.ref (sk_ad G p0)])).length) Slot.unset).toArray = ls at hl ⊢
  have hl : lv_has ls 1 [(0, .ref (sk_ad G p0))] := hl
  suffices hgo : ∀ (H : Heap) (locs : List Loc), sk_W G 198 sk_t I s H locs → W p l e (headSpec wsX4_size rmX4_size).room s m ([.ref (sk_ad G p0)].toArray) below meth c H locs 0 0 (MQ below (sk_Qi G 198 sk_t Q) ([.ref (sk_ad G p0)].toArray) s 0 0 (sk_A G)) (F0 m 0 ls []) from hgo _ _ hw
  unfold M_Pass_size at hM
  intro H locs hw
  refine lv_aload_n hx hb (okX4_size (0, .aload_n 0, 1) (List.mem_of_getElem? (i := 0) rfl)) rfl (lv_at hl 0 rfl) ?_
  have hr1 := hw.1.2.2 p0 1
  refine sk_geti S hK hw hk_p0 (kd_in hk_p0) (C := RX4) (T := TX4) (N := 3) rfl hI4 1 ⟨by decide, rfl, by decide, rfl⟩ rfl (k' := 1) rfl hL0 (okX4_size (1, .getfield 20, 3) (List.mem_of_getElem? (i := 1) rfl)) ?_
  exact sk_iret hx hb hr0 hlocks hK hw hr1 hM (okX4_size (4, .ireturn, 1) (List.mem_of_getElem? (i := 2) rfl))
def rmX3_settle : Room := { frames := 12, cells := 0, slots := 0, locals := 697 }
set_option maxHeartbeats 4000000 in
set_option maxRecDepth 100000 in
theorem c_Parting_settle (l : Launch) (G : sk_G) {p1 p2 : Int} (hk_p1 : kd p1 = 4) (hr_p2 : rI p2) {Q : Int → sk_S → Prop} {I : sk_S} (hM : M_Parting_settle p1 p2 Q I) : Met l yX3_settle wsX3_settle rmX3_settle (va_Pc [.ref (sk_ad G 47), .ref (sk_ad G p1), .int (iI p2)] (sk_U G 198 sk_t I)) (sk_Qi G 198 sk_t Q) 0 0 (sk_A G) := by
  refine Met.ofW (cc := cX3_settle) (maxL := 4) (ret := (some .int)) (by decide) rfl ?_
  intro p e s m args below meth c s₁ B hml hv
  obtain ⟨rfl, hU, hK⟩ := hv
  have hx := B.exec
  have hb := B.bytes
  have hr0 := B.returns
  have hts := atoms_spec (ws := wsX3_settle) B.pre
  have hown : s.vm.findClass RX3 = some m.cls := findClass_of_methodNamed B.named
  have hlocks := B.notSynchronized
  have S : CallFix p m c cX3_settle 4 s ([.ref (sk_ad G 47), .ref (sk_ad G p1), .int (iI p2)].toArray) wsX3_settle RX3 := ⟨hx, hb, hml, hown, hts⟩
  have hL0 := hts (.fieldLink RX3 26 "SkyLights$Parting" "size" "I") (by decide +kernel)
  have hL1 := hts (.methodLink RX3 41 Lib.Math.min.name) (by decide +kernel)
  have hL2 := hts (.static Lib.Math.min.name) (by decide +kernel)
  have hL3 := hts (.initialized "java/lang/Math") (by decide +kernel)
  have hL4 := hts (.code Lib.Math.min.name Lib.Math.min.code 2 (some .int)) (by decide +kernel)
  have hL5 := hts (.fieldLink RX3 30 "SkyLights$Parting" "free" "I") (by decide +kernel)
  have hL6 := hts (.fieldLink RX3 33 "SkyLights$Parting" "leastSum" "I") (by decide +kernel)
  have hL7 := hts (.fieldLink RX3 23 "SkyLights$Parting" "least" "LSkyLights$Row;") (by decide +kernel)
  have hI3 : ∀ w ∈ u_ws RX3 TX3 6, w ∈ wsX3_settle := by decide +kernel
  have hw : sk_W G 198 sk_t I s s.heap [] := ⟨hU, va_S.rf⟩
  have hl := lv_entry ([.ref (sk_ad G 47), .ref (sk_ad G p1), .int (iI p2)]) (n := 4) (Nat.le_of_ble_eq_true rfl)
  rw [lg_entry_eq]
  generalize (lg_sl ([.ref (sk_ad G 47), .ref (sk_ad G p1), .int (iI p2)]) ++ List.replicate (4 - (lg_sl ([.ref (sk_ad G 47), .ref (sk_ad G p1), .int (iI p2)])).length) Slot.unset).toArray = ls at hl ⊢
  have hl : lv_has ls 4 [(0, .ref (sk_ad G 47)), (1, .ref (sk_ad G p1)), (2, .int (iI p2))] := hl
  suffices hgo : ∀ (H : Heap) (locs : List Loc), sk_W G 198 sk_t I s H locs → W p l e (headSpec wsX3_settle rmX3_settle).room s m ([.ref (sk_ad G 47), .ref (sk_ad G p1), .int (iI p2)].toArray) below meth c H locs 0 0 (MQ below (sk_Qi G 198 sk_t Q) ([.ref (sk_ad G 47), .ref (sk_ad G p1), .int (iI p2)].toArray) s 0 0 (sk_A G)) (F0 m 0 ls []) from hgo _ _ hw
  have hJ_61 : ∀ (v1 v3 : Int) (I : sk_S), kd v1 = 4 → rI v3 → L_Parting_settle_61 v1 Q v3 I → ∀ (H : Heap) (locs : List Loc) (ls : Array Slot), sk_W G 198 sk_t I s H locs → lv_has ls 4 [(0, .ref (sk_ad G 47)), (1, .ref (sk_ad G v1)), (3, .int (iI v3))] → W p l e (headSpec wsX3_settle rmX3_settle).room s m ([.ref (sk_ad G 47), .ref (sk_ad G p1), .int (iI p2)].toArray) below meth c H locs 0 0 (MQ below (sk_Qi G 198 sk_t Q) ([.ref (sk_ad G 47), .ref (sk_ad G p1), .int (iI p2)].toArray) s 0 0 (sk_A G)) (F0 m 61 ls []) := by
    intro v1 v3 I hk_v1 hr_v3 hM H locs ls hw hl
    unfold L_Parting_settle_61 at hM
    obtain ⟨X_61, hX_61⟩ : ∃ X : Int → sk_S → Prop, ∀ (v3 : Int) (I : sk_S), X v3 I ↔ (rI v3 → ∀ (H : Heap) (locs : List Loc) (ls : Array Slot), sk_W G 198 sk_t I s H locs → lv_has ls 4 [(0, .ref (sk_ad G 47)), (1, .ref (sk_ad G v1)), (3, .int (iI v3))] → W p l e (headSpec wsX3_settle rmX3_settle).room s m ([.ref (sk_ad G 47), .ref (sk_ad G p1), .int (iI p2)].toArray) below meth c H locs 0 0 (MQ below (sk_Qi G 198 sk_t Q) ([.ref (sk_ad G 47), .ref (sk_ad G p1), .int (iI p2)].toArray) s 0 0 (sk_A G)) (F0 m 61 ls [])) := ⟨_, fun _ _ => Iff.rfl⟩
    refine (hX_61 v3 I).1 (hM X_61 (fun v3 I hM => (hX_61 v3 I).2 (fun hr_v3 H locs ls hw hl => ?_))) hr_v3 H locs ls hw hl
    refine lv_iload_n hx hb (okX3_settle (61, .iload_n 3, 1) (List.mem_of_getElem? (i := 32) rfl)) rfl (lv_at hl 2 rfl) ?_
    refine lv_aload_n hx hb (okX3_settle (62, .aload_n 0, 1) (List.mem_of_getElem? (i := 33) rfl)) rfl (lv_at hl 0 rfl) ?_
    have hr3 := hw.1.2.2 47 3
    refine sk_geti S hK hw kdn_47 (kd_in kdn_47) (C := RX3) (T := TX3) (N := 6) rfl hI3 3 ⟨by decide, rfl, by decide, rfl⟩ rfl (k' := 3) rfl hL0 (okX3_settle (63, .getfield 26, 3) (List.mem_of_getElem? (i := 34) rfl)) ?_
    refine sk_icmp_ge (tgt := 88) hx hb hr_v3 hr3 (okX3_settle (66, .if_icmp .ge 22, 3) (List.mem_of_getElem? (i := 35) rfl)) (by decide) (fun c66 => ?_) (fun c66 => ?_)
    · have hM := hM.1 c66
      refine lv_aload_n hx hb (okX3_settle (88, .aload_n 0, 1) (List.mem_of_getElem? (i := 45) rfl)) rfl (lv_at hl 0 rfl) ?_
      have hr4 := hw.1.2.2 47 5
      refine sk_geti S hK hw kdn_47 (kd_in kdn_47) (C := RX3) (T := TX3) (N := 6) rfl hI3 5 ⟨by decide, rfl, by decide, rfl⟩ rfl (k' := 5) rfl hL6 (okX3_settle (89, .getfield 33, 3) (List.mem_of_getElem? (i := 46) rfl)) ?_
      exact sk_iret hx hb hr0 hlocks hK hw hr4 hM (okX3_settle (92, .ireturn, 1) (List.mem_of_getElem? (i := 47) rfl))
    · have hM := hM.2 c66
      refine lv_aload_n hx hb (okX3_settle (69, .aload_n 1, 1) (List.mem_of_getElem? (i := 36) rfl)) rfl (lv_at hl 1 rfl) ?_
      refine lv_iload_n hx hb (okX3_settle (70, .iload_n 3, 1) (List.mem_of_getElem? (i := 37) rfl)) rfl (lv_at hl 2 rfl) ?_
      refine lv_aload_n hx hb (okX3_settle (71, .aload_n 0, 1) (List.mem_of_getElem? (i := 38) rfl)) rfl (lv_at hl 0 rfl) ?_
      refine sk_getr (b := 52) S hK hw kdn_47 (kd_in kdn_47) (C := RX3) (T := TX3) (N := 6) rfl hI3 2 ⟨by decide, rfl, by decide, rfl⟩ rfl (k' := 2) rfl rfl (by decide +kernel) hL7 (okX3_settle (72, .getfield 23, 3) (List.mem_of_getElem? (i := 39) rfl)) ?_
      refine lv_iload_n hx hb (okX3_settle (75, .iload_n 3, 1) (List.mem_of_getElem? (i := 40) rfl)) rfl (lv_at hl 2 rfl) ?_
      refine sk_ci (sk_runV (a := 52) (C := RX7) (As := [.int (iI v3)]) (rest := [.int (iI v3), .ref (sk_ad G v1)]) S (c_Row_at l G kdn_52 hr_v3 hM) sk_blind gX3_settle_X7_at rfl hdX7_at ⟨⟨rfl, rfl⟩, Nat.le_of_ble_eq_true rfl, Nat.le_of_ble_eq_true rfl⟩ (sk_recv hK hw kdn_52 (kd_in kdn_52) (by decide) rfl) (sk_pre hK hw) rfl hl.1 rfl (Nat.le_of_ble_eq_true rfl) (okX3_settle (76, .invokevirtual 59, 3) (List.mem_of_getElem? (i := 41) rfl)) ⟨Nat.zero_le _, Nat.zero_le _⟩) hw (fun r_76 I_76 H locs hr_r_76 hM hw => ?_)
      refine sk_cv (sk_runV (a := v1) (C := RX4) (As := [.int (iI v3), .int (iI r_76)]) (rest := []) S (c_Pass_setDelay l G hk_v1 hr_v3 hr_r_76 hM) sk_blind gX3_settle_X4_setDelay rfl hdX4_setDelay ⟨⟨rfl, rfl⟩, Nat.le_of_ble_eq_true rfl, Nat.le_of_ble_eq_true rfl⟩ (sk_recv hK hw hk_v1 (kd_in hk_v1) (by decide) rfl) (sk_pre hK hw) rfl hl.1 rfl (Nat.le_of_ble_eq_true rfl) (okX3_settle (79, .invokevirtual 63, 3) (List.mem_of_getElem? (i := 42) rfl)) ⟨Nat.zero_le _, Nat.zero_le _⟩) hw (fun I_79 H locs hM hw => ?_)
      obtain ⟨hr5, hM⟩ := hM
      obtain ⟨v3_82, ev3_82⟩ : ∃ y : Int, y = v3 + 1 := ⟨_, rfl⟩
      have hM := hM v3_82 ev3_82
      have hr_v3_82 : rI v3_82 := by rw [ev3_82]; exact hr5
      refine lv_iinc (v := iI v3_82) (lv' := [(3, .int (iI v3_82)), (0, .ref (sk_ad G 47)), (1, .ref (sk_ad G v1))]) hx hb (okX3_settle (82, .iinc 3 1, 3) (List.mem_of_getElem? (i := 43) rfl)) hl (k := 2) rfl (by rw [ev3_82]; exact iI_add _ _) (by decide) rfl (fun ls hl => ?_)
      refine lv_goto (tgt := 61) hx hb (okX3_settle (85, .goto (-24), 3) (List.mem_of_getElem? (i := 44) rfl)) (by decide) ?_
      exact (hX_61 v3_82 I_79).1 hM hr_v3_82 H locs ls hw (lv_sub hl [1, 2, 0] rfl)
  have hJ_47 : ∀ (v1 : Int) (I : sk_S), kd v1 = 4 → J_Parting_settle_47 v1 Q I → ∀ (H : Heap) (locs : List Loc) (ls : Array Slot), sk_W G 198 sk_t I s H locs → lv_has ls 4 [(0, .ref (sk_ad G 47)), (1, .ref (sk_ad G v1))] → W p l e (headSpec wsX3_settle rmX3_settle).room s m ([.ref (sk_ad G 47), .ref (sk_ad G p1), .int (iI p2)].toArray) below meth c H locs 0 0 (MQ below (sk_Qi G 198 sk_t Q) ([.ref (sk_ad G 47), .ref (sk_ad G p1), .int (iI p2)].toArray) s 0 0 (sk_A G)) (F0 m 47 ls []) := by
    intro v1 I hk_v1 hM H locs ls hw hl
    unfold J_Parting_settle_47 at hM
    refine lv_aload_n hx hb (okX3_settle (47, .aload_n 0, 1) (List.mem_of_getElem? (i := 24) rfl)) rfl (lv_at hl 0 rfl) ?_
    have hr2 := hw.1.2.2 47 5
    refine sk_geti S hK hw kdn_47 (kd_in kdn_47) (C := RX3) (T := TX3) (N := 6) rfl hI3 5 ⟨by decide, rfl, by decide, rfl⟩ rfl (k' := 5) rfl hL6 (okX3_settle (48, .getfield 33, 3) (List.mem_of_getElem? (i := 25) rfl)) ?_
    refine lv_sipush (v := iI 1000) hx hb (okX3_settle (51, .sipush 1000, 3) (List.mem_of_getElem? (i := 26) rfl)) (by decide +kernel) ?_
    refine sk_icmp_ne (tgt := 59) hx hb hr2 (by decide) (okX3_settle (54, .if_icmp .ne 5, 3) (List.mem_of_getElem? (i := 27) rfl)) (by decide) (fun c54 => ?_) (fun c54 => ?_)
    · have hM := hM.1 c54
      refine lv_iconst (v := iI 0) hx hb (okX3_settle (59, .iconst 0, 1) (List.mem_of_getElem? (i := 30) rfl)) rfl ?_
      refine lv_istore_n (lv' := [(3, .int (iI 0)), (0, .ref (sk_ad G 47)), (1, .ref (sk_ad G v1))]) hx hb (okX3_settle (60, .istore_n 3, 1) (List.mem_of_getElem? (i := 31) rfl)) rfl hl (by decide) rfl (fun ls hl => ?_)
      exact hJ_61 v1 0 I hk_v1 (by decide) hM H locs ls hw (lv_sub hl [1, 2, 0] rfl)
    · have hM := hM.2 c54
      refine lv_iconst (v := iI (-1)) hx hb (okX3_settle (57, .iconst (-1), 1) (List.mem_of_getElem? (i := 28) rfl)) rfl ?_
      exact sk_iret hx hb hr0 hlocks hK hw (by decide) hM (okX3_settle (58, .ireturn, 1) (List.mem_of_getElem? (i := 29) rfl))
  unfold M_Parting_settle at hM
  intro H locs hw
  refine lv_aload_n hx hb (okX3_settle (0, .aload_n 0, 1) (List.mem_of_getElem? (i := 0) rfl)) rfl (lv_at hl 0 rfl) ?_
  refine lv_aload_n hx hb (okX3_settle (1, .aload_n 1, 1) (List.mem_of_getElem? (i := 1) rfl)) rfl (lv_at hl 1 rfl) ?_
  refine sk_ci (sk_runV (a := p1) (C := RX4) (As := []) (rest := [.ref (sk_ad G 47)]) S (c_Pass_size l G hk_p1 hM) sk_blind gX3_settle_X4_size rfl hdX4_size ⟨⟨rfl, rfl⟩, Nat.le_of_ble_eq_true rfl, Nat.le_of_ble_eq_true rfl⟩ (sk_recv hK hw hk_p1 (kd_in hk_p1) (by decide) rfl) (sk_pre hK hw) rfl hl.1 rfl (Nat.le_of_ble_eq_true rfl) (okX3_settle (2, .invokevirtual 36, 3) (List.mem_of_getElem? (i := 2) rfl)) ⟨Nat.zero_le _, Nat.zero_le _⟩) hw (fun r_2 I_2 H locs hr_r_2 hM hw => ?_)
  refine sk_put S hK hw kdn_47 (kd_in kdn_47) (C := RX3) (T := TX3) (N := 6) rfl hI3 tyX3 tyX3_ok nmX3 3 ⟨by decide, rfl, by decide, rfl⟩ rfl rfl (k' := 3) rfl hr_r_2 ⟨rfl, rfl⟩ hL0 (okX3_settle (5, .putfield 26, 3) (List.mem_of_getElem? (i := 3) rfl)) (fun H locs hw => ?_)
  refine lv_aload_n hx hb (okX3_settle (8, .aload_n 0, 1) (List.mem_of_getElem? (i := 4) rfl)) rfl (lv_at hl 0 rfl) ?_
  refine lv_aload_n hx hb (okX3_settle (9, .aload_n 0, 1) (List.mem_of_getElem? (i := 5) rfl)) rfl (lv_at hl 0 rfl) ?_
  have hr1 := hw.1.2.2 47 3
  refine sk_geti S hK hw kdn_47 (kd_in kdn_47) (C := RX3) (T := TX3) (N := 6) rfl hI3 3 ⟨by decide, rfl, by decide, rfl⟩ rfl (k' := 3) rfl hL0 (okX3_settle (10, .getfield 26, 3) (List.mem_of_getElem? (i := 6) rfl)) ?_
  refine lv_bipush (v := iI 6) hx hb (okX3_settle (13, .bipush 6, 2) (List.mem_of_getElem? (i := 7) rfl)) (by decide +kernel) ?_
  refine sk_min hx hb (hml.trans hl.1.symm) hown hL1 hL2 hL3 hL4 ⟨Nat.le_of_ble_eq_true rfl, Nat.le_of_ble_eq_true rfl, Nat.zero_le _, Nat.zero_le _⟩ hr1 (by decide) (okX3_settle (15, .invokestatic 41, 3) (List.mem_of_getElem? (i := 8) rfl)) ?_
  refine sk_put S hK hw kdn_47 (kd_in kdn_47) (C := RX3) (T := TX3) (N := 6) rfl hI3 tyX3 tyX3_ok nmX3 4 ⟨by decide, rfl, by decide, rfl⟩ rfl rfl (k' := 4) rfl (rI_imin hr1 (by decide)) ⟨rfl, rfl⟩ hL5 (okX3_settle (18, .putfield 30, 3) (List.mem_of_getElem? (i := 9) rfl)) (fun H locs hw => ?_)
  refine lv_aload_n hx hb (okX3_settle (21, .aload_n 0, 1) (List.mem_of_getElem? (i := 10) rfl)) rfl (lv_at hl 0 rfl) ?_
  refine lv_sipush (v := iI 1000) hx hb (okX3_settle (22, .sipush 1000, 3) (List.mem_of_getElem? (i := 11) rfl)) (by decide +kernel) ?_
  refine sk_put S hK hw kdn_47 (kd_in kdn_47) (C := RX3) (T := TX3) (N := 6) rfl hI3 tyX3 tyX3_ok nmX3 5 ⟨by decide, rfl, by decide, rfl⟩ rfl rfl (k' := 5) rfl (by decide) ⟨rfl, rfl⟩ hL6 (okX3_settle (25, .putfield 33, 3) (List.mem_of_getElem? (i := 12) rfl)) (fun H locs hw => ?_)
  refine lv_aload_n hx hb (okX3_settle (28, .aload_n 0, 1) (List.mem_of_getElem? (i := 13) rfl)) rfl (lv_at hl 0 rfl) ?_
  refine lv_aload_n hx hb (okX3_settle (29, .aload_n 1, 1) (List.mem_of_getElem? (i := 14) rfl)) rfl (lv_at hl 1 rfl) ?_
  refine lv_iload_n hx hb (okX3_settle (30, .iload_n 2, 1) (List.mem_of_getElem? (i := 15) rfl)) rfl (lv_at hl 2 rfl) ?_
  refine sk_cv (sk_runV (a := 47) (C := RX3) (As := [.ref (sk_ad G p1), .int (iI p2)]) (rest := []) S (c_Parting_noteMeetings l G hk_p1 hr_p2 hM) sk_blind gX3_settle_X3_noteMeetings rfl hdX3_noteMeetings ⟨⟨rfl, rfl⟩, Nat.le_of_ble_eq_true rfl, Nat.le_of_ble_eq_true rfl⟩ (sk_recv hK hw kdn_47 (kd_in kdn_47) (by decide) rfl) (sk_pre hK hw) rfl hl.1 rfl (Nat.le_of_ble_eq_true rfl) (okX3_settle (31, .invokevirtual 47, 3) (List.mem_of_getElem? (i := 16) rfl)) ⟨Nat.zero_le _, Nat.zero_le _⟩) hw (fun I_31 H locs hM hw => ?_)
  refine lv_aload_n hx hb (okX3_settle (34, .aload_n 0, 1) (List.mem_of_getElem? (i := 17) rfl)) rfl (lv_at hl 0 rfl) ?_
  refine sk_ci (sk_runV (a := 47) (C := RX3) (As := []) (rest := []) S (c_Parting_doOthersFit l G hM) sk_blind gX3_settle_X3_doOthersFit rfl hdX3_doOthersFit ⟨⟨rfl, rfl⟩, Nat.le_of_ble_eq_true rfl, Nat.le_of_ble_eq_true rfl⟩ (sk_recv hK hw kdn_47 (kd_in kdn_47) (by decide) rfl) (sk_pre hK hw) rfl hl.1 rfl (Nat.le_of_ble_eq_true rfl) (okX3_settle (35, .invokevirtual 51, 3) (List.mem_of_getElem? (i := 18) rfl)) ⟨Nat.zero_le _, Nat.zero_le _⟩) hw (fun r_35 I_35 H locs hr_r_35 hM hw => ?_)
  obtain ⟨hb_r_35, hM⟩ := hM
  refine sk_if_eq (tgt := 47) hx hb hr_r_35 (okX3_settle (38, .ifCond .eq 9, 3) (List.mem_of_getElem? (i := 19) rfl)) (by decide) (fun c38 => ?_) (fun c38 => ?_)
  · have hM := hM.1 c38
    exact hJ_47 p1 I_35 hk_p1 hM H locs ls hw (lv_sub hl [0, 1] rfl)
  · have hM := hM.2 c38
    refine lv_aload_n hx hb (okX3_settle (41, .aload_n 0, 1) (List.mem_of_getElem? (i := 20) rfl)) rfl (lv_at hl 0 rfl) ?_
    refine lv_iconst (v := iI 0) hx hb (okX3_settle (42, .iconst 0, 1) (List.mem_of_getElem? (i := 21) rfl)) rfl ?_
    refine lv_iconst (v := iI 0) hx hb (okX3_settle (43, .iconst 0, 1) (List.mem_of_getElem? (i := 22) rfl)) rfl ?_
    refine sk_cv (sk_runS (As := [.ref (sk_ad G 47), .int (iI 0), .int (iI 0)]) (rest := []) S (c_Parting_search l G 8 (by decide) (by decide) hM) sk_blind gX3_settle_X3_search rfl hdX3_search ⟨⟨rfl, rfl⟩, Nat.le_of_ble_eq_true rfl, Nat.le_of_ble_eq_true rfl⟩ (sk_pre hK hw) rfl hl.1 rfl (Nat.le_of_ble_eq_true rfl) (okX3_settle (44, .invokestatic 55, 3) (List.mem_of_getElem? (i := 23) rfl)) ⟨Nat.zero_le _, Nat.zero_le _⟩) hw (fun I_44 H locs hM hw => ?_)
    exact hJ_47 p1 I_44 hk_p1 hM H locs ls hw (lv_sub hl [0, 1] rfl)
def rmX4_charge : Room := { frames := 1, cells := 0, slots := 0, locals := 53 }
set_option maxHeartbeats 4000000 in
set_option maxRecDepth 100000 in
theorem c_Pass_charge (l : Launch) (G : sk_G) {p0 p1 : Int} (hk_p0 : kd p0 = 4) (hr_p1 : rI p1) {Q : Int → sk_S → Prop} {I : sk_S} (hM : M_Pass_charge p0 p1 Q I) : Met l yX4_charge wsX4_charge rmX4_charge (va_Pc [.ref (sk_ad G p0), .int (iI p1)] (sk_U G 198 sk_t I)) (sk_Qi G 198 sk_t Q) 0 0 (sk_A G) := by
  refine Met.ofW (cc := cX4_charge) (maxL := 3) (ret := (some .int)) (by decide) rfl ?_
  intro p e s m args below meth c s₁ B hml hv
  obtain ⟨rfl, hU, hK⟩ := hv
  have hx := B.exec
  have hb := B.bytes
  have hr0 := B.returns
  have hts := atoms_spec (ws := wsX4_charge) B.pre
  have hown : s.vm.findClass RX4 = some m.cls := findClass_of_methodNamed B.named
  have hlocks := B.notSynchronized
  have S : CallFix p m c cX4_charge 3 s ([.ref (sk_ad G p0), .int (iI p1)].toArray) wsX4_charge RX4 := ⟨hx, hb, hml, hown, hts⟩
  have hL0 := hts (.fieldLink RX4 16 "SkyLights$Pass" "cells" "LSkyLights$Row;") (by decide +kernel)
  have hL1 := hts (.fieldLink RX4 24 "SkyLights$Pass" "ticks" "I") (by decide +kernel)
  have hI4 : ∀ w ∈ u_ws RX4 TX4 3, w ∈ wsX4_charge := by decide +kernel
  have hw : sk_W G 198 sk_t I s s.heap [] := ⟨hU, va_S.rf⟩
  have hl := lv_entry ([.ref (sk_ad G p0), .int (iI p1)]) (n := 3) (Nat.le_of_ble_eq_true rfl)
  rw [lg_entry_eq]
  generalize (lg_sl ([.ref (sk_ad G p0), .int (iI p1)]) ++ List.replicate (3 - (lg_sl ([.ref (sk_ad G p0), .int (iI p1)])).length) Slot.unset).toArray = ls at hl ⊢
  have hl : lv_has ls 3 [(0, .ref (sk_ad G p0)), (1, .int (iI p1))] := hl
  suffices hgo : ∀ (H : Heap) (locs : List Loc), sk_W G 198 sk_t I s H locs → W p l e (headSpec wsX4_charge rmX4_charge).room s m ([.ref (sk_ad G p0), .int (iI p1)].toArray) below meth c H locs 0 0 (MQ below (sk_Qi G 198 sk_t Q) ([.ref (sk_ad G p0), .int (iI p1)].toArray) s 0 0 (sk_A G)) (F0 m 0 ls []) from hgo _ _ hw
  have hJ_23 : ∀ (v0 s0 : Int) (I : sk_S), kd v0 = 4 → rI s0 → J_Pass_charge_23 v0 s0 Q I → ∀ (H : Heap) (locs : List Loc) (ls : Array Slot), sk_W G 198 sk_t I s H locs → lv_has ls 3 [(0, .ref (sk_ad G v0))] → W p l e (headSpec wsX4_charge rmX4_charge).room s m ([.ref (sk_ad G p0), .int (iI p1)].toArray) below meth c H locs 0 0 (MQ below (sk_Qi G 198 sk_t Q) ([.ref (sk_ad G p0), .int (iI p1)].toArray) s 0 0 (sk_A G)) (F0 m 23 ls [.int (iI s0)]) := by
    intro v0 s0 I hk_v0 hr_s0 hM H locs ls hw hl
    unfold J_Pass_charge_23 at hM
    refine lv_istore_n (lv' := [(2, .int (iI s0)), (0, .ref (sk_ad G v0))]) hx hb (okX4_charge (23, .istore_n 2, 1) (List.mem_of_getElem? (i := 14) rfl)) rfl hl (by decide) rfl (fun ls hl => ?_)
    refine lv_aload_n hx hb (okX4_charge (24, .aload_n 0, 1) (List.mem_of_getElem? (i := 15) rfl)) rfl (lv_at hl 1 rfl) ?_
    have hr2 := hw.1.2.2 v0 2
    refine sk_geti S hK hw hk_v0 (kd_in hk_v0) (C := RX4) (T := TX4) (N := 3) rfl hI4 2 ⟨by decide, rfl, by decide, rfl⟩ rfl (k' := 2) rfl hL1 (okX4_charge (25, .getfield 24, 3) (List.mem_of_getElem? (i := 16) rfl)) ?_
    refine lv_iload_n hx hb (okX4_charge (28, .iload_n 2, 1) (List.mem_of_getElem? (i := 17) rfl)) rfl (lv_at hl 0 rfl) ?_
    refine sk_if_eq (tgt := 36) hx hb hr_s0 (okX4_charge (29, .ifCond .eq 7, 3) (List.mem_of_getElem? (i := 18) rfl)) (by decide) (fun c29 => ?_) (fun c29 => ?_)
    · have hM := hM.1 c29
      refine lv_iconst (v := iI 3) hx hb (okX4_charge (36, .iconst 3, 1) (List.mem_of_getElem? (i := 21) rfl)) rfl ?_
      refine sk_imul hx hb (okX4_charge (37, .imul, 1) (List.mem_of_getElem? (i := 22) rfl)) ?_
      obtain ⟨hr3, hM⟩ := hM
      exact sk_iret hx hb hr0 hlocks hK hw hr3 hM (okX4_charge (38, .ireturn, 1) (List.mem_of_getElem? (i := 23) rfl))
    · have hM := hM.2 c29
      refine lv_iconst (v := iI 4) hx hb (okX4_charge (32, .iconst 4, 1) (List.mem_of_getElem? (i := 19) rfl)) rfl ?_
      refine lv_goto (tgt := 37) hx hb (okX4_charge (33, .goto 4, 3) (List.mem_of_getElem? (i := 20) rfl)) (by decide) ?_
      refine sk_imul hx hb (okX4_charge (37, .imul, 1) (List.mem_of_getElem? (i := 22) rfl)) ?_
      obtain ⟨hr4, hM⟩ := hM
      exact sk_iret hx hb hr0 hlocks hK hw hr4 hM (okX4_charge (38, .ireturn, 1) (List.mem_of_getElem? (i := 23) rfl))
  unfold M_Pass_charge at hM
  intro H locs hw
  refine lv_aload_n hx hb (okX4_charge (0, .aload_n 0, 1) (List.mem_of_getElem? (i := 0) rfl)) rfl (lv_at hl 0 rfl) ?_
  refine sk_getr (b := (p0 + 1)) S hK hw hk_p0 (kd_in hk_p0) (C := RX4) (T := TX4) (N := 3) rfl hI4 0 ⟨by decide, rfl, by decide, rfl⟩ rfl (k' := 0) rfl rfl (rf4 hk_p0) hL0 (okX4_charge (1, .getfield 16, 3) (List.mem_of_getElem? (i := 1) rfl)) ?_
  refine lv_iload_n hx hb (okX4_charge (4, .iload_n 1, 1) (List.mem_of_getElem? (i := 2) rfl)) rfl (lv_at hl 1 rfl) ?_
  refine lv_bipush (v := iI 8) hx hb (okX4_charge (5, .bipush 8, 2) (List.mem_of_getElem? (i := 3) rfl)) (by decide +kernel) ?_
  refine sk_imul hx hb (okX4_charge (7, .imul, 1) (List.mem_of_getElem? (i := 4) rfl)) ?_
  refine lv_iconst (v := iI 3) hx hb (okX4_charge (8, .iconst 3, 1) (List.mem_of_getElem? (i := 5) rfl)) rfl ?_
  refine sk_iadd hx hb (okX4_charge (9, .iadd, 1) (List.mem_of_getElem? (i := 6) rfl)) ?_
  refine lv_iconst (v := iI 2) hx hb (okX4_charge (10, .iconst 2, 1) (List.mem_of_getElem? (i := 7) rfl)) rfl ?_
  refine sk_iadd hx hb (okX4_charge (11, .iadd, 1) (List.mem_of_getElem? (i := 8) rfl)) ?_
  obtain ⟨hr1, hM⟩ := hM
  refine sk_ci (sk_runV (a := (p0 + 1)) (C := RX7) (As := [.int (iI (((p1 * 8) + 3) + 2))]) (rest := []) S (c_Row_at l G (k4 hk_p0) hr1 hM) sk_blind gX4_charge_X7_at rfl hdX7_at ⟨⟨rfl, rfl⟩, Nat.le_of_ble_eq_true rfl, Nat.le_of_ble_eq_true rfl⟩ (sk_recv hK hw (k4 hk_p0) (kd_in (k4 hk_p0)) (by decide) rfl) (sk_pre hK hw) rfl hl.1 rfl (Nat.le_of_ble_eq_true rfl) (okX4_charge (12, .invokevirtual 27, 3) (List.mem_of_getElem? (i := 9) rfl)) ⟨Nat.zero_le _, Nat.zero_le _⟩) hw (fun r_12 I_12 H locs hr_r_12 hM hw => ?_)
  refine sk_if_le (tgt := 22) hx hb hr_r_12 (okX4_charge (15, .ifCond .le 7, 3) (List.mem_of_getElem? (i := 10) rfl)) (by decide) (fun c15 => ?_) (fun c15 => ?_)
  · have hM := hM.1 c15
    refine lv_iconst (v := iI 0) hx hb (okX4_charge (22, .iconst 0, 1) (List.mem_of_getElem? (i := 13) rfl)) rfl ?_
    exact hJ_23 p0 0 I_12 hk_p0 (by decide) hM H locs ls hw (lv_sub hl [0] rfl)
  · have hM := hM.2 c15
    refine lv_iconst (v := iI 1) hx hb (okX4_charge (18, .iconst 1, 1) (List.mem_of_getElem? (i := 11) rfl)) rfl ?_
    refine lv_goto (tgt := 23) hx hb (okX4_charge (19, .goto 4, 3) (List.mem_of_getElem? (i := 12) rfl)) (by decide) ?_
    exact hJ_23 p0 1 I_12 hk_p0 (by decide) hM H locs ls hw (lv_sub hl [0] rfl)
def rmX4_delayOf : Room := { frames := 1, cells := 0, slots := 0, locals := 53 }
set_option maxHeartbeats 4000000 in
set_option maxRecDepth 100000 in
theorem c_Pass_delayOf (l : Launch) (G : sk_G) {p0 p1 : Int} (hk_p0 : kd p0 = 4) (hr_p1 : rI p1) {Q : Int → sk_S → Prop} {I : sk_S} (hM : M_Pass_delayOf p0 p1 Q I) : Met l yX4_delayOf wsX4_delayOf rmX4_delayOf (va_Pc [.ref (sk_ad G p0), .int (iI p1)] (sk_U G 198 sk_t I)) (sk_Qi G 198 sk_t Q) 0 0 (sk_A G) := by
  refine Met.ofW (cc := cX4_delayOf) (maxL := 2) (ret := (some .int)) (by decide) rfl ?_
  intro p e s m args below meth c s₁ B hml hv
  obtain ⟨rfl, hU, hK⟩ := hv
  have hx := B.exec
  have hb := B.bytes
  have hr0 := B.returns
  have hts := atoms_spec (ws := wsX4_delayOf) B.pre
  have hown : s.vm.findClass RX4 = some m.cls := findClass_of_methodNamed B.named
  have hlocks := B.notSynchronized
  have S : CallFix p m c cX4_delayOf 2 s ([.ref (sk_ad G p0), .int (iI p1)].toArray) wsX4_delayOf RX4 := ⟨hx, hb, hml, hown, hts⟩
  have hL0 := hts (.fieldLink RX4 16 "SkyLights$Pass" "cells" "LSkyLights$Row;") (by decide +kernel)
  have hI4 : ∀ w ∈ u_ws RX4 TX4 3, w ∈ wsX4_delayOf := by decide +kernel
  have hw : sk_W G 198 sk_t I s s.heap [] := ⟨hU, va_S.rf⟩
  have hl := lv_entry ([.ref (sk_ad G p0), .int (iI p1)]) (n := 2) (Nat.le_of_ble_eq_true rfl)
  rw [lg_entry_eq]
  generalize (lg_sl ([.ref (sk_ad G p0), .int (iI p1)]) ++ List.replicate (2 - (lg_sl ([.ref (sk_ad G p0), .int (iI p1)])).length) Slot.unset).toArray = ls at hl ⊢
  have hl : lv_has ls 2 [(0, .ref (sk_ad G p0)), (1, .int (iI p1))] := hl
  suffices hgo : ∀ (H : Heap) (locs : List Loc), sk_W G 198 sk_t I s H locs → W p l e (headSpec wsX4_delayOf rmX4_delayOf).room s m ([.ref (sk_ad G p0), .int (iI p1)].toArray) below meth c H locs 0 0 (MQ below (sk_Qi G 198 sk_t Q) ([.ref (sk_ad G p0), .int (iI p1)].toArray) s 0 0 (sk_A G)) (F0 m 0 ls []) from hgo _ _ hw
  unfold M_Pass_delayOf at hM
  intro H locs hw
  refine lv_aload_n hx hb (okX4_delayOf (0, .aload_n 0, 1) (List.mem_of_getElem? (i := 0) rfl)) rfl (lv_at hl 0 rfl) ?_
  refine sk_getr (b := (p0 + 1)) S hK hw hk_p0 (kd_in hk_p0) (C := RX4) (T := TX4) (N := 3) rfl hI4 0 ⟨by decide, rfl, by decide, rfl⟩ rfl (k' := 0) rfl rfl (rf4 hk_p0) hL0 (okX4_delayOf (1, .getfield 16, 3) (List.mem_of_getElem? (i := 1) rfl)) ?_
  refine lv_iload_n hx hb (okX4_delayOf (4, .iload_n 1, 1) (List.mem_of_getElem? (i := 2) rfl)) rfl (lv_at hl 1 rfl) ?_
  refine lv_bipush (v := iI 8) hx hb (okX4_delayOf (5, .bipush 8, 2) (List.mem_of_getElem? (i := 3) rfl)) (by decide +kernel) ?_
  refine sk_imul hx hb (okX4_delayOf (7, .imul, 1) (List.mem_of_getElem? (i := 4) rfl)) ?_
  refine lv_bipush (v := iI 7) hx hb (okX4_delayOf (8, .bipush 7, 2) (List.mem_of_getElem? (i := 5) rfl)) (by decide +kernel) ?_
  refine sk_iadd hx hb (okX4_delayOf (10, .iadd, 1) (List.mem_of_getElem? (i := 6) rfl)) ?_
  obtain ⟨hr1, hM⟩ := hM
  refine sk_ci (sk_runV (a := (p0 + 1)) (C := RX7) (As := [.int (iI ((p1 * 8) + 7))]) (rest := []) S (c_Row_at l G (k4 hk_p0) hr1 hM) sk_blind gX4_delayOf_X7_at rfl hdX7_at ⟨⟨rfl, rfl⟩, Nat.le_of_ble_eq_true rfl, Nat.le_of_ble_eq_true rfl⟩ (sk_recv hK hw (k4 hk_p0) (kd_in (k4 hk_p0)) (by decide) rfl) (sk_pre hK hw) rfl hl.1 rfl (Nat.le_of_ble_eq_true rfl) (okX4_delayOf (11, .invokevirtual 27, 3) (List.mem_of_getElem? (i := 7) rfl)) ⟨Nat.zero_le _, Nat.zero_le _⟩) hw (fun r_11 I_11 H locs hr_r_11 hM hw => ?_)
  exact sk_iret hx hb hr0 hlocks hK hw hr_r_11 hM (okX4_delayOf (14, .ireturn, 1) (List.mem_of_getElem? (i := 8) rfl))
def rmX4_goal : Room := { frames := 1, cells := 0, slots := 0, locals := 53 }
set_option maxHeartbeats 4000000 in
set_option maxRecDepth 100000 in
theorem c_Pass_goal (l : Launch) (G : sk_G) {p0 p1 : Int} (hk_p0 : kd p0 = 4) (hr_p1 : rI p1) {Q : Int → sk_S → Prop} {I : sk_S} (hM : M_Pass_goal p0 p1 Q I) : Met l yX4_goal wsX4_goal rmX4_goal (va_Pc [.ref (sk_ad G p0), .int (iI p1)] (sk_U G 198 sk_t I)) (sk_Qi G 198 sk_t Q) 0 0 (sk_A G) := by
  refine Met.ofW (cc := cX4_goal) (maxL := 2) (ret := (some .int)) (by decide) rfl ?_
  intro p e s m args below meth c s₁ B hml hv
  obtain ⟨rfl, hU, hK⟩ := hv
  have hx := B.exec
  have hb := B.bytes
  have hr0 := B.returns
  have hts := atoms_spec (ws := wsX4_goal) B.pre
  have hown : s.vm.findClass RX4 = some m.cls := findClass_of_methodNamed B.named
  have hlocks := B.notSynchronized
  have S : CallFix p m c cX4_goal 2 s ([.ref (sk_ad G p0), .int (iI p1)].toArray) wsX4_goal RX4 := ⟨hx, hb, hml, hown, hts⟩
  have hL0 := hts (.fieldLink RX4 16 "SkyLights$Pass" "cells" "LSkyLights$Row;") (by decide +kernel)
  have hI4 : ∀ w ∈ u_ws RX4 TX4 3, w ∈ wsX4_goal := by decide +kernel
  have hw : sk_W G 198 sk_t I s s.heap [] := ⟨hU, va_S.rf⟩
  have hl := lv_entry ([.ref (sk_ad G p0), .int (iI p1)]) (n := 2) (Nat.le_of_ble_eq_true rfl)
  rw [lg_entry_eq]
  generalize (lg_sl ([.ref (sk_ad G p0), .int (iI p1)]) ++ List.replicate (2 - (lg_sl ([.ref (sk_ad G p0), .int (iI p1)])).length) Slot.unset).toArray = ls at hl ⊢
  have hl : lv_has ls 2 [(0, .ref (sk_ad G p0)), (1, .int (iI p1))] := hl
  suffices hgo : ∀ (H : Heap) (locs : List Loc), sk_W G 198 sk_t I s H locs → W p l e (headSpec wsX4_goal rmX4_goal).room s m ([.ref (sk_ad G p0), .int (iI p1)].toArray) below meth c H locs 0 0 (MQ below (sk_Qi G 198 sk_t Q) ([.ref (sk_ad G p0), .int (iI p1)].toArray) s 0 0 (sk_A G)) (F0 m 0 ls []) from hgo _ _ hw
  unfold M_Pass_goal at hM
  intro H locs hw
  refine lv_aload_n hx hb (okX4_goal (0, .aload_n 0, 1) (List.mem_of_getElem? (i := 0) rfl)) rfl (lv_at hl 0 rfl) ?_
  refine sk_getr (b := (p0 + 1)) S hK hw hk_p0 (kd_in hk_p0) (C := RX4) (T := TX4) (N := 3) rfl hI4 0 ⟨by decide, rfl, by decide, rfl⟩ rfl (k' := 0) rfl rfl (rf4 hk_p0) hL0 (okX4_goal (1, .getfield 16, 3) (List.mem_of_getElem? (i := 1) rfl)) ?_
  refine lv_iload_n hx hb (okX4_goal (4, .iload_n 1, 1) (List.mem_of_getElem? (i := 2) rfl)) rfl (lv_at hl 1 rfl) ?_
  refine lv_bipush (v := iI 8) hx hb (okX4_goal (5, .bipush 8, 2) (List.mem_of_getElem? (i := 3) rfl)) (by decide +kernel) ?_
  refine sk_imul hx hb (okX4_goal (7, .imul, 1) (List.mem_of_getElem? (i := 4) rfl)) ?_
  refine lv_bipush (v := iI 6) hx hb (okX4_goal (8, .bipush 6, 2) (List.mem_of_getElem? (i := 5) rfl)) (by decide +kernel) ?_
  refine sk_iadd hx hb (okX4_goal (10, .iadd, 1) (List.mem_of_getElem? (i := 6) rfl)) ?_
  obtain ⟨hr1, hM⟩ := hM
  refine sk_ci (sk_runV (a := (p0 + 1)) (C := RX7) (As := [.int (iI ((p1 * 8) + 6))]) (rest := []) S (c_Row_at l G (k4 hk_p0) hr1 hM) sk_blind gX4_goal_X7_at rfl hdX7_at ⟨⟨rfl, rfl⟩, Nat.le_of_ble_eq_true rfl, Nat.le_of_ble_eq_true rfl⟩ (sk_recv hK hw (k4 hk_p0) (kd_in (k4 hk_p0)) (by decide) rfl) (sk_pre hK hw) rfl hl.1 rfl (Nat.le_of_ble_eq_true rfl) (okX4_goal (11, .invokevirtual 27, 3) (List.mem_of_getElem? (i := 7) rfl)) ⟨Nat.zero_le _, Nat.zero_le _⟩) hw (fun r_11 I_11 H locs hr_r_11 hM hw => ?_)
  exact sk_iret hx hb hr0 hlocks hK hw hr_r_11 hM (okX4_goal (14, .ireturn, 1) (List.mem_of_getElem? (i := 8) rfl))
def rmX4_has : Room := { frames := 0, cells := 0, slots := 0, locals := 0 }
set_option maxHeartbeats 4000000 in
set_option maxRecDepth 100000 in
theorem c_Pass_has (l : Launch) (G : sk_G) {p0 p1 : Int} (hk_p0 : kd p0 = 4) (hr_p1 : rI p1) {Q : Int → sk_S → Prop} {I : sk_S} (hM : M_Pass_has p0 p1 Q I) : Met l yX4_has wsX4_has rmX4_has (va_Pc [.ref (sk_ad G p0), .int (iI p1)] (sk_U G 198 sk_t I)) (sk_Qz G 198 sk_t Q) 0 0 (sk_A G) := by
  refine Met.ofW (cc := cX4_has) (maxL := 2) (ret := (some .boolean)) (by decide) rfl ?_
  intro p e s m args below meth c s₁ B hml hv
  obtain ⟨rfl, hU, hK⟩ := hv
  have hx := B.exec
  have hb := B.bytes
  have hr0 := B.returns
  have hts := atoms_spec (ws := wsX4_has) B.pre
  have hown : s.vm.findClass RX4 = some m.cls := findClass_of_methodNamed B.named
  have hlocks := B.notSynchronized
  have S : CallFix p m c cX4_has 2 s ([.ref (sk_ad G p0), .int (iI p1)].toArray) wsX4_has RX4 := ⟨hx, hb, hml, hown, hts⟩
  have hL0 := hts (.fieldLink RX4 20 "SkyLights$Pass" "size" "I") (by decide +kernel)
  have hI4 : ∀ w ∈ u_ws RX4 TX4 3, w ∈ wsX4_has := by decide +kernel
  have hw : sk_W G 198 sk_t I s s.heap [] := ⟨hU, va_S.rf⟩
  have hl := lv_entry ([.ref (sk_ad G p0), .int (iI p1)]) (n := 2) (Nat.le_of_ble_eq_true rfl)
  rw [lg_entry_eq]
  generalize (lg_sl ([.ref (sk_ad G p0), .int (iI p1)]) ++ List.replicate (2 - (lg_sl ([.ref (sk_ad G p0), .int (iI p1)])).length) Slot.unset).toArray = ls at hl ⊢
  have hl : lv_has ls 2 [(0, .ref (sk_ad G p0)), (1, .int (iI p1))] := hl
  suffices hgo : ∀ (H : Heap) (locs : List Loc), sk_W G 198 sk_t I s H locs → W p l e (headSpec wsX4_has rmX4_has).room s m ([.ref (sk_ad G p0), .int (iI p1)].toArray) below meth c H locs 0 0 (MQ below (sk_Qz G 198 sk_t Q) ([.ref (sk_ad G p0), .int (iI p1)].toArray) s 0 0 (sk_A G)) (F0 m 0 ls []) from hgo _ _ hw
  unfold M_Pass_has at hM
  intro H locs hw
  refine lv_iload_n hx hb (okX4_has (0, .iload_n 1, 1) (List.mem_of_getElem? (i := 0) rfl)) rfl (lv_at hl 1 rfl) ?_
  refine sk_if_lt (tgt := 16) hx hb hr_p1 (okX4_has (1, .ifCond .lt 15, 3) (List.mem_of_getElem? (i := 1) rfl)) (by decide) (fun c1 => ?_) (fun c1 => ?_)
  · have hM := hM.1 c1
    refine lv_iconst (v := iI 0) hx hb (okX4_has (16, .iconst 0, 1) (List.mem_of_getElem? (i := 8) rfl)) rfl ?_
    exact sk_zret hx hb hr0 hlocks hK hw (Or.inl rfl) hM (okX4_has (17, .ireturn, 1) (List.mem_of_getElem? (i := 9) rfl))
  · have hM := hM.2 c1
    refine lv_iload_n hx hb (okX4_has (4, .iload_n 1, 1) (List.mem_of_getElem? (i := 2) rfl)) rfl (lv_at hl 1 rfl) ?_
    refine lv_aload_n hx hb (okX4_has (5, .aload_n 0, 1) (List.mem_of_getElem? (i := 3) rfl)) rfl (lv_at hl 0 rfl) ?_
    have hr1 := hw.1.2.2 p0 1
    refine sk_geti S hK hw hk_p0 (kd_in hk_p0) (C := RX4) (T := TX4) (N := 3) rfl hI4 1 ⟨by decide, rfl, by decide, rfl⟩ rfl (k' := 1) rfl hL0 (okX4_has (6, .getfield 20, 3) (List.mem_of_getElem? (i := 4) rfl)) ?_
    refine sk_icmp_ge (tgt := 16) hx hb hr_p1 hr1 (okX4_has (9, .if_icmp .ge 7, 3) (List.mem_of_getElem? (i := 5) rfl)) (by decide) (fun c9 => ?_) (fun c9 => ?_)
    · have hM := hM.1 c9
      refine lv_iconst (v := iI 0) hx hb (okX4_has (16, .iconst 0, 1) (List.mem_of_getElem? (i := 8) rfl)) rfl ?_
      exact sk_zret hx hb hr0 hlocks hK hw (Or.inl rfl) hM (okX4_has (17, .ireturn, 1) (List.mem_of_getElem? (i := 9) rfl))
    · have hM := hM.2 c9
      refine lv_iconst (v := iI 1) hx hb (okX4_has (12, .iconst 1, 1) (List.mem_of_getElem? (i := 6) rfl)) rfl ?_
      refine lv_goto (tgt := 17) hx hb (okX4_has (13, .goto 4, 3) (List.mem_of_getElem? (i := 7) rfl)) (by decide) ?_
      exact sk_zret hx hb hr0 hlocks hK hw (Or.inr rfl) hM (okX4_has (17, .ireturn, 1) (List.mem_of_getElem? (i := 9) rfl))
def rmX4_isInZone : Room := { frames := 2, cells := 0, slots := 0, locals := 135 }
set_option maxHeartbeats 4000000 in
set_option maxRecDepth 100000 in
theorem c_Pass_isInZone (l : Launch) (G : sk_G) {p0 p1 : Int} (hk_p0 : kd p0 = 4) (hr_p1 : rI p1) {Q : Int → sk_S → Prop} {I : sk_S} (hM : M_Pass_isInZone p0 p1 Q I) : Met l yX4_isInZone wsX4_isInZone rmX4_isInZone (va_Pc [.ref (sk_ad G p0), .int (iI p1), .ref (sk_ad G 36)] (sk_U G 198 sk_t I)) (sk_Qz G 198 sk_t Q) 0 0 (sk_A G) := by
  refine Met.ofW (cc := cX4_isInZone) (maxL := 7) (ret := (some .boolean)) (by decide) rfl ?_
  intro p e s m args below meth c s₁ B hml hv
  obtain ⟨rfl, hU, hK⟩ := hv
  have hx := B.exec
  have hb := B.bytes
  have hr0 := B.returns
  have hts := atoms_spec (ws := wsX4_isInZone) B.pre
  have hown : s.vm.findClass RX4 = some m.cls := findClass_of_methodNamed B.named
  have hlocks := B.notSynchronized
  have S : CallFix p m c cX4_isInZone 7 s ([.ref (sk_ad G p0), .int (iI p1), .ref (sk_ad G 36)].toArray) wsX4_isInZone RX4 := ⟨hx, hb, hml, hown, hts⟩
  have hL0 := hts (.fieldLink RX4 16 "SkyLights$Pass" "cells" "LSkyLights$Row;") (by decide +kernel)
  have hI4 : ∀ w ∈ u_ws RX4 TX4 3, w ∈ wsX4_isInZone := by decide +kernel
  have hw : sk_W G 198 sk_t I s s.heap [] := ⟨hU, va_S.rf⟩
  have hl := lv_entry ([.ref (sk_ad G p0), .int (iI p1), .ref (sk_ad G 36)]) (n := 7) (Nat.le_of_ble_eq_true rfl)
  rw [lg_entry_eq]
  generalize (lg_sl ([.ref (sk_ad G p0), .int (iI p1), .ref (sk_ad G 36)]) ++ List.replicate (7 - (lg_sl ([.ref (sk_ad G p0), .int (iI p1), .ref (sk_ad G 36)])).length) Slot.unset).toArray = ls at hl ⊢
  have hl : lv_has ls 7 [(0, .ref (sk_ad G p0)), (1, .int (iI p1)), (2, .ref (sk_ad G 36))] := hl
  suffices hgo : ∀ (H : Heap) (locs : List Loc), sk_W G 198 sk_t I s H locs → W p l e (headSpec wsX4_isInZone rmX4_isInZone).room s m ([.ref (sk_ad G p0), .int (iI p1), .ref (sk_ad G 36)].toArray) below meth c H locs 0 0 (MQ below (sk_Qz G 198 sk_t Q) ([.ref (sk_ad G p0), .int (iI p1), .ref (sk_ad G 36)].toArray) s 0 0 (sk_A G)) (F0 m 0 ls []) from hgo _ _ hw
  unfold M_Pass_isInZone at hM
  intro H locs hw
  refine lv_aload_n hx hb (okX4_isInZone (0, .aload_n 0, 1) (List.mem_of_getElem? (i := 0) rfl)) rfl (lv_at hl 0 rfl) ?_
  refine sk_getr (b := (p0 + 1)) S hK hw hk_p0 (kd_in hk_p0) (C := RX4) (T := TX4) (N := 3) rfl hI4 0 ⟨by decide, rfl, by decide, rfl⟩ rfl (k' := 0) rfl rfl (rf4 hk_p0) hL0 (okX4_isInZone (1, .getfield 16, 3) (List.mem_of_getElem? (i := 1) rfl)) ?_
  refine lv_iload_n hx hb (okX4_isInZone (4, .iload_n 1, 1) (List.mem_of_getElem? (i := 2) rfl)) rfl (lv_at hl 1 rfl) ?_
  refine lv_bipush (v := iI 8) hx hb (okX4_isInZone (5, .bipush 8, 2) (List.mem_of_getElem? (i := 3) rfl)) (by decide +kernel) ?_
  refine sk_imul hx hb (okX4_isInZone (7, .imul, 1) (List.mem_of_getElem? (i := 4) rfl)) ?_
  refine lv_iconst (v := iI 0) hx hb (okX4_isInZone (8, .iconst 0, 1) (List.mem_of_getElem? (i := 5) rfl)) rfl ?_
  refine sk_iadd hx hb (okX4_isInZone (9, .iadd, 1) (List.mem_of_getElem? (i := 6) rfl)) ?_
  obtain ⟨hr1, hM⟩ := hM
  refine sk_ci (sk_runV (a := (p0 + 1)) (C := RX7) (As := [.int (iI ((p1 * 8) + 0))]) (rest := []) S (c_Row_at l G (k4 hk_p0) hr1 hM) sk_blind gX4_isInZone_X7_at rfl hdX7_at ⟨⟨rfl, rfl⟩, Nat.le_of_ble_eq_true rfl, Nat.le_of_ble_eq_true rfl⟩ (sk_recv hK hw (k4 hk_p0) (kd_in (k4 hk_p0)) (by decide) rfl) (sk_pre hK hw) rfl hl.1 rfl (Nat.le_of_ble_eq_true rfl) (okX4_isInZone (10, .invokevirtual 27, 3) (List.mem_of_getElem? (i := 7) rfl)) ⟨Nat.zero_le _, Nat.zero_le _⟩) hw (fun r_10 I_10 H locs hr_r_10 hM hw => ?_)
  refine lv_istore_n (lv' := [(3, .int (iI r_10)), (0, .ref (sk_ad G p0)), (1, .int (iI p1)), (2, .ref (sk_ad G 36))]) hx hb (okX4_isInZone (13, .istore_n 3, 1) (List.mem_of_getElem? (i := 8) rfl)) rfl hl (by decide) rfl (fun ls hl => ?_)
  refine lv_aload_n hx hb (okX4_isInZone (14, .aload_n 0, 1) (List.mem_of_getElem? (i := 9) rfl)) rfl (lv_at hl 1 rfl) ?_
  refine sk_getr (b := (p0 + 1)) S hK hw hk_p0 (kd_in hk_p0) (C := RX4) (T := TX4) (N := 3) rfl hI4 0 ⟨by decide, rfl, by decide, rfl⟩ rfl (k' := 0) rfl rfl (rf4 hk_p0) hL0 (okX4_isInZone (15, .getfield 16, 3) (List.mem_of_getElem? (i := 10) rfl)) ?_
  refine lv_iload_n hx hb (okX4_isInZone (18, .iload_n 1, 1) (List.mem_of_getElem? (i := 11) rfl)) rfl (lv_at hl 2 rfl) ?_
  refine lv_bipush (v := iI 8) hx hb (okX4_isInZone (19, .bipush 8, 2) (List.mem_of_getElem? (i := 12) rfl)) (by decide +kernel) ?_
  refine sk_imul hx hb (okX4_isInZone (21, .imul, 1) (List.mem_of_getElem? (i := 13) rfl)) ?_
  refine lv_iconst (v := iI 1) hx hb (okX4_isInZone (22, .iconst 1, 1) (List.mem_of_getElem? (i := 14) rfl)) rfl ?_
  refine sk_iadd hx hb (okX4_isInZone (23, .iadd, 1) (List.mem_of_getElem? (i := 15) rfl)) ?_
  obtain ⟨hr2, hM⟩ := hM
  refine sk_ci (sk_runV (a := (p0 + 1)) (C := RX7) (As := [.int (iI ((p1 * 8) + 1))]) (rest := []) S (c_Row_at l G (k4 hk_p0) hr2 hM) sk_blind gX4_isInZone_X7_at rfl hdX7_at ⟨⟨rfl, rfl⟩, Nat.le_of_ble_eq_true rfl, Nat.le_of_ble_eq_true rfl⟩ (sk_recv hK hw (k4 hk_p0) (kd_in (k4 hk_p0)) (by decide) rfl) (sk_pre hK hw) rfl hl.1 rfl (Nat.le_of_ble_eq_true rfl) (okX4_isInZone (24, .invokevirtual 27, 3) (List.mem_of_getElem? (i := 16) rfl)) ⟨Nat.zero_le _, Nat.zero_le _⟩) hw (fun r_24 I_24 H locs hr_r_24 hM hw => ?_)
  refine lv_istore (lv' := [(4, .int (iI r_24)), (3, .int (iI r_10)), (0, .ref (sk_ad G p0)), (1, .int (iI p1)), (2, .ref (sk_ad G 36))]) hx hb (okX4_isInZone (27, .istore 4, 2) (List.mem_of_getElem? (i := 17) rfl)) hl (by decide) rfl (fun ls hl => ?_)
  refine lv_iload_n hx hb (okX4_isInZone (29, .iload_n 3, 1) (List.mem_of_getElem? (i := 18) rfl)) rfl (lv_at hl 1 rfl) ?_
  refine lv_aload_n hx hb (okX4_isInZone (30, .aload_n 0, 1) (List.mem_of_getElem? (i := 19) rfl)) rfl (lv_at hl 2 rfl) ?_
  refine sk_getr (b := (p0 + 1)) S hK hw hk_p0 (kd_in hk_p0) (C := RX4) (T := TX4) (N := 3) rfl hI4 0 ⟨by decide, rfl, by decide, rfl⟩ rfl (k' := 0) rfl rfl (rf4 hk_p0) hL0 (okX4_isInZone (31, .getfield 16, 3) (List.mem_of_getElem? (i := 20) rfl)) ?_
  refine lv_iload_n hx hb (okX4_isInZone (34, .iload_n 1, 1) (List.mem_of_getElem? (i := 21) rfl)) rfl (lv_at hl 3 rfl) ?_
  refine lv_bipush (v := iI 8) hx hb (okX4_isInZone (35, .bipush 8, 2) (List.mem_of_getElem? (i := 22) rfl)) (by decide +kernel) ?_
  refine sk_imul hx hb (okX4_isInZone (37, .imul, 1) (List.mem_of_getElem? (i := 23) rfl)) ?_
  refine lv_iconst (v := iI 3) hx hb (okX4_isInZone (38, .iconst 3, 1) (List.mem_of_getElem? (i := 24) rfl)) rfl ?_
  refine sk_iadd hx hb (okX4_isInZone (39, .iadd, 1) (List.mem_of_getElem? (i := 25) rfl)) ?_
  refine lv_iconst (v := iI 0) hx hb (okX4_isInZone (40, .iconst 0, 1) (List.mem_of_getElem? (i := 26) rfl)) rfl ?_
  refine sk_iadd hx hb (okX4_isInZone (41, .iadd, 1) (List.mem_of_getElem? (i := 27) rfl)) ?_
  obtain ⟨hr3, hM⟩ := hM
  refine sk_ci (sk_runV (a := (p0 + 1)) (C := RX7) (As := [.int (iI (((p1 * 8) + 3) + 0))]) (rest := [.int (iI r_10)]) S (c_Row_at l G (k4 hk_p0) hr3 hM) sk_blind gX4_isInZone_X7_at rfl hdX7_at ⟨⟨rfl, rfl⟩, Nat.le_of_ble_eq_true rfl, Nat.le_of_ble_eq_true rfl⟩ (sk_recv hK hw (k4 hk_p0) (kd_in (k4 hk_p0)) (by decide) rfl) (sk_pre hK hw) rfl hl.1 rfl (Nat.le_of_ble_eq_true rfl) (okX4_isInZone (42, .invokevirtual 27, 3) (List.mem_of_getElem? (i := 28) rfl)) ⟨Nat.zero_le _, Nat.zero_le _⟩) hw (fun r_42 I_42 H locs hr_r_42 hM hw => ?_)
  refine sk_iadd hx hb (okX4_isInZone (45, .iadd, 1) (List.mem_of_getElem? (i := 29) rfl)) ?_
  obtain ⟨hr4, hM⟩ := hM
  refine sk_nm (fun v5_46 ev5_46 => ?_)
  have hM := hM v5_46 ev5_46
  have hr_v5_46 : rI v5_46 := by rw [ev5_46]; exact hr4
  refine lv_istore (lv' := [(5, .int (iI v5_46)), (4, .int (iI r_24)), (3, .int (iI r_10)), (0, .ref (sk_ad G p0)), (1, .int (iI p1)), (2, .ref (sk_ad G 36))]) hx hb (okX4_isInZone (46, .istore 5, 2) (List.mem_of_getElem? (i := 30) rfl)) hl (by decide) rfl (fun ls hl => ?_)
  refine lv_iload hx hb (okX4_isInZone (48, .iload 4, 2) (List.mem_of_getElem? (i := 31) rfl)) (lv_at hl 1 rfl) ?_
  refine lv_aload_n hx hb (okX4_isInZone (50, .aload_n 0, 1) (List.mem_of_getElem? (i := 32) rfl)) rfl (lv_at hl 3 rfl) ?_
  refine sk_getr (b := (p0 + 1)) S hK hw hk_p0 (kd_in hk_p0) (C := RX4) (T := TX4) (N := 3) rfl hI4 0 ⟨by decide, rfl, by decide, rfl⟩ rfl (k' := 0) rfl rfl (rf4 hk_p0) hL0 (okX4_isInZone (51, .getfield 16, 3) (List.mem_of_getElem? (i := 33) rfl)) ?_
  refine lv_iload_n hx hb (okX4_isInZone (54, .iload_n 1, 1) (List.mem_of_getElem? (i := 34) rfl)) rfl (lv_at hl 4 rfl) ?_
  refine lv_bipush (v := iI 8) hx hb (okX4_isInZone (55, .bipush 8, 2) (List.mem_of_getElem? (i := 35) rfl)) (by decide +kernel) ?_
  refine sk_imul hx hb (okX4_isInZone (57, .imul, 1) (List.mem_of_getElem? (i := 36) rfl)) ?_
  refine lv_iconst (v := iI 3) hx hb (okX4_isInZone (58, .iconst 3, 1) (List.mem_of_getElem? (i := 37) rfl)) rfl ?_
  refine sk_iadd hx hb (okX4_isInZone (59, .iadd, 1) (List.mem_of_getElem? (i := 38) rfl)) ?_
  refine lv_iconst (v := iI 1) hx hb (okX4_isInZone (60, .iconst 1, 1) (List.mem_of_getElem? (i := 39) rfl)) rfl ?_
  refine sk_iadd hx hb (okX4_isInZone (61, .iadd, 1) (List.mem_of_getElem? (i := 40) rfl)) ?_
  obtain ⟨hr5, hM⟩ := hM
  refine sk_ci (sk_runV (a := (p0 + 1)) (C := RX7) (As := [.int (iI (((p1 * 8) + 3) + 1))]) (rest := [.int (iI r_24)]) S (c_Row_at l G (k4 hk_p0) hr5 hM) sk_blind gX4_isInZone_X7_at rfl hdX7_at ⟨⟨rfl, rfl⟩, Nat.le_of_ble_eq_true rfl, Nat.le_of_ble_eq_true rfl⟩ (sk_recv hK hw (k4 hk_p0) (kd_in (k4 hk_p0)) (by decide) rfl) (sk_pre hK hw) rfl hl.1 rfl (Nat.le_of_ble_eq_true rfl) (okX4_isInZone (62, .invokevirtual 27, 3) (List.mem_of_getElem? (i := 41) rfl)) ⟨Nat.zero_le _, Nat.zero_le _⟩) hw (fun r_62 I_62 H locs hr_r_62 hM hw => ?_)
  refine sk_iadd hx hb (okX4_isInZone (65, .iadd, 1) (List.mem_of_getElem? (i := 42) rfl)) ?_
  obtain ⟨hr6, hM⟩ := hM
  refine sk_nm (fun v6_66 ev6_66 => ?_)
  have hM := hM v6_66 ev6_66
  have hr_v6_66 : rI v6_66 := by rw [ev6_66]; exact hr6
  refine lv_istore (lv' := [(6, .int (iI v6_66)), (5, .int (iI v5_46)), (4, .int (iI r_24)), (3, .int (iI r_10)), (0, .ref (sk_ad G p0)), (1, .int (iI p1)), (2, .ref (sk_ad G 36))]) hx hb (okX4_isInZone (66, .istore 6, 2) (List.mem_of_getElem? (i := 43) rfl)) hl (by decide) rfl (fun ls hl => ?_)
  refine lv_aload_n hx hb (okX4_isInZone (68, .aload_n 2, 1) (List.mem_of_getElem? (i := 44) rfl)) rfl (lv_at hl 6 rfl) ?_
  refine lv_iload_n hx hb (okX4_isInZone (69, .iload_n 3, 1) (List.mem_of_getElem? (i := 45) rfl)) rfl (lv_at hl 3 rfl) ?_
  refine lv_iload hx hb (okX4_isInZone (70, .iload 4, 2) (List.mem_of_getElem? (i := 46) rfl)) (lv_at hl 2 rfl) ?_
  refine lv_iload hx hb (okX4_isInZone (72, .iload 5, 2) (List.mem_of_getElem? (i := 47) rfl)) (lv_at hl 1 rfl) ?_
  refine lv_iload hx hb (okX4_isInZone (74, .iload 6, 2) (List.mem_of_getElem? (i := 48) rfl)) (lv_at hl 0 rfl) ?_
  refine sk_ci (sk_runV (a := 36) (C := RX0) (As := [.int (iI r_10), .int (iI r_24), .int (iI v5_46), .int (iI v6_66)]) (rest := []) S (c_Air_isInZone l G hr_r_10 hr_r_24 hr_v5_46 hr_v6_66 hM) sk_blind gX4_isInZone_X0_isInZone rfl hdX0_isInZone ⟨⟨rfl, rfl⟩, Nat.le_of_ble_eq_true rfl, Nat.le_of_ble_eq_true rfl⟩ (sk_recv hK hw kdn_36 (kd_in kdn_36) (by decide) rfl) (sk_pre hK hw) rfl hl.1 rfl (Nat.le_of_ble_eq_true rfl) (okX4_isInZone (76, .invokevirtual 56, 3) (List.mem_of_getElem? (i := 49) rfl)) ⟨Nat.zero_le _, Nat.zero_le _⟩) hw (fun r_76 I_76 H locs hr_r_76 hM hw => ?_)
  obtain ⟨hb_r_76, hM⟩ := hM
  exact sk_zret hx hb hr0 hlocks hK hw hb_r_76 hM (okX4_isInZone (79, .ireturn, 1) (List.mem_of_getElem? (i := 50) rfl))
def rmX4_isAnyInZone : Room := { frames := 3, cells := 0, slots := 0, locals := 193 }
set_option maxHeartbeats 4000000 in
set_option maxRecDepth 100000 in
theorem c_Pass_isAnyInZone (l : Launch) (G : sk_G) {p0 : Int} (hk_p0 : kd p0 = 4) {Q : Int → sk_S → Prop} {I : sk_S} (hM : M_Pass_isAnyInZone p0 Q I) : Met l yX4_isAnyInZone wsX4_isAnyInZone rmX4_isAnyInZone (va_Pc [.ref (sk_ad G p0), .ref (sk_ad G 36)] (sk_U G 198 sk_t I)) (sk_Qz G 198 sk_t Q) 0 0 (sk_A G) := by
  refine Met.ofW (cc := cX4_isAnyInZone) (maxL := 3) (ret := (some .boolean)) (by decide) rfl ?_
  intro p e s m args below meth c s₁ B hml hv
  obtain ⟨rfl, hU, hK⟩ := hv
  have hx := B.exec
  have hb := B.bytes
  have hr0 := B.returns
  have hts := atoms_spec (ws := wsX4_isAnyInZone) B.pre
  have hown : s.vm.findClass RX4 = some m.cls := findClass_of_methodNamed B.named
  have hlocks := B.notSynchronized
  have S : CallFix p m c cX4_isAnyInZone 3 s ([.ref (sk_ad G p0), .ref (sk_ad G 36)].toArray) wsX4_isAnyInZone RX4 := ⟨hx, hb, hml, hown, hts⟩
  have hL0 := hts (.fieldLink RX4 20 "SkyLights$Pass" "size" "I") (by decide +kernel)
  have hI4 : ∀ w ∈ u_ws RX4 TX4 3, w ∈ wsX4_isAnyInZone := by decide +kernel
  have hw : sk_W G 198 sk_t I s s.heap [] := ⟨hU, va_S.rf⟩
  have hl := lv_entry ([.ref (sk_ad G p0), .ref (sk_ad G 36)]) (n := 3) (Nat.le_of_ble_eq_true rfl)
  rw [lg_entry_eq]
  generalize (lg_sl ([.ref (sk_ad G p0), .ref (sk_ad G 36)]) ++ List.replicate (3 - (lg_sl ([.ref (sk_ad G p0), .ref (sk_ad G 36)])).length) Slot.unset).toArray = ls at hl ⊢
  have hl : lv_has ls 3 [(0, .ref (sk_ad G p0)), (1, .ref (sk_ad G 36))] := hl
  suffices hgo : ∀ (H : Heap) (locs : List Loc), sk_W G 198 sk_t I s H locs → W p l e (headSpec wsX4_isAnyInZone rmX4_isAnyInZone).room s m ([.ref (sk_ad G p0), .ref (sk_ad G 36)].toArray) below meth c H locs 0 0 (MQ below (sk_Qz G 198 sk_t Q) ([.ref (sk_ad G p0), .ref (sk_ad G 36)].toArray) s 0 0 (sk_A G)) (F0 m 0 ls []) from hgo _ _ hw
  have hJ_2 : ∀ (v0 v2 : Int) (I : sk_S), kd v0 = 4 → rI v2 → L_Pass_isAnyInZone_2 v0 Q v2 I → ∀ (H : Heap) (locs : List Loc) (ls : Array Slot), sk_W G 198 sk_t I s H locs → lv_has ls 3 [(0, .ref (sk_ad G v0)), (1, .ref (sk_ad G 36)), (2, .int (iI v2))] → W p l e (headSpec wsX4_isAnyInZone rmX4_isAnyInZone).room s m ([.ref (sk_ad G p0), .ref (sk_ad G 36)].toArray) below meth c H locs 0 0 (MQ below (sk_Qz G 198 sk_t Q) ([.ref (sk_ad G p0), .ref (sk_ad G 36)].toArray) s 0 0 (sk_A G)) (F0 m 2 ls []) := by
    intro v0 v2 I hk_v0 hr_v2 hM H locs ls hw hl
    unfold L_Pass_isAnyInZone_2 at hM
    obtain ⟨X_2, hX_2⟩ : ∃ X : Int → sk_S → Prop, ∀ (v2 : Int) (I : sk_S), X v2 I ↔ (rI v2 → ∀ (H : Heap) (locs : List Loc) (ls : Array Slot), sk_W G 198 sk_t I s H locs → lv_has ls 3 [(0, .ref (sk_ad G v0)), (1, .ref (sk_ad G 36)), (2, .int (iI v2))] → W p l e (headSpec wsX4_isAnyInZone rmX4_isAnyInZone).room s m ([.ref (sk_ad G p0), .ref (sk_ad G 36)].toArray) below meth c H locs 0 0 (MQ below (sk_Qz G 198 sk_t Q) ([.ref (sk_ad G p0), .ref (sk_ad G 36)].toArray) s 0 0 (sk_A G)) (F0 m 2 ls [])) := ⟨_, fun _ _ => Iff.rfl⟩
    refine (hX_2 v2 I).1 (hM X_2 (fun v2 I hM => (hX_2 v2 I).2 (fun hr_v2 H locs ls hw hl => ?_))) hr_v2 H locs ls hw hl
    refine lv_iload_n hx hb (okX4_isAnyInZone (2, .iload_n 2, 1) (List.mem_of_getElem? (i := 2) rfl)) rfl (lv_at hl 2 rfl) ?_
    refine lv_aload_n hx hb (okX4_isAnyInZone (3, .aload_n 0, 1) (List.mem_of_getElem? (i := 3) rfl)) rfl (lv_at hl 0 rfl) ?_
    have hr1 := hw.1.2.2 v0 1
    refine sk_geti S hK hw hk_v0 (kd_in hk_v0) (C := RX4) (T := TX4) (N := 3) rfl hI4 1 ⟨by decide, rfl, by decide, rfl⟩ rfl (k' := 1) rfl hL0 (okX4_isAnyInZone (4, .getfield 20, 3) (List.mem_of_getElem? (i := 4) rfl)) ?_
    refine sk_icmp_ge (tgt := 27) hx hb hr_v2 hr1 (okX4_isAnyInZone (7, .if_icmp .ge 20, 3) (List.mem_of_getElem? (i := 5) rfl)) (by decide) (fun c7 => ?_) (fun c7 => ?_)
    · have hM := hM.1 c7
      refine lv_iconst (v := iI 0) hx hb (okX4_isAnyInZone (27, .iconst 0, 1) (List.mem_of_getElem? (i := 15) rfl)) rfl ?_
      exact sk_zret hx hb hr0 hlocks hK hw (Or.inl rfl) hM (okX4_isAnyInZone (28, .ireturn, 1) (List.mem_of_getElem? (i := 16) rfl))
    · have hM := hM.2 c7
      refine lv_aload_n hx hb (okX4_isAnyInZone (10, .aload_n 0, 1) (List.mem_of_getElem? (i := 6) rfl)) rfl (lv_at hl 0 rfl) ?_
      refine lv_iload_n hx hb (okX4_isAnyInZone (11, .iload_n 2, 1) (List.mem_of_getElem? (i := 7) rfl)) rfl (lv_at hl 2 rfl) ?_
      refine lv_aload_n hx hb (okX4_isAnyInZone (12, .aload_n 1, 1) (List.mem_of_getElem? (i := 8) rfl)) rfl (lv_at hl 1 rfl) ?_
      refine sk_ci (sk_runV (a := v0) (C := RX4) (As := [.int (iI v2), .ref (sk_ad G 36)]) (rest := []) S (c_Pass_isInZone l G hk_v0 hr_v2 hM) sk_blind gX4_isAnyInZone_X4_isInZone rfl hdX4_isInZone ⟨⟨rfl, rfl⟩, Nat.le_of_ble_eq_true rfl, Nat.le_of_ble_eq_true rfl⟩ (sk_recv hK hw hk_v0 (kd_in hk_v0) (by decide) rfl) (sk_pre hK hw) rfl hl.1 rfl (Nat.le_of_ble_eq_true rfl) (okX4_isAnyInZone (13, .invokevirtual 62, 3) (List.mem_of_getElem? (i := 9) rfl)) ⟨Nat.zero_le _, Nat.zero_le _⟩) hw (fun r_13 I_13 H locs hr_r_13 hM hw => ?_)
      obtain ⟨hb_r_13, hM⟩ := hM
      refine sk_if_eq (tgt := 21) hx hb hr_r_13 (okX4_isAnyInZone (16, .ifCond .eq 5, 3) (List.mem_of_getElem? (i := 10) rfl)) (by decide) (fun c16 => ?_) (fun c16 => ?_)
      · have hM := hM.1 c16
        obtain ⟨hr2, hM⟩ := hM
        obtain ⟨v2_21, ev2_21⟩ : ∃ y : Int, y = v2 + 1 := ⟨_, rfl⟩
        have hM := hM v2_21 ev2_21
        have hr_v2_21 : rI v2_21 := by rw [ev2_21]; exact hr2
        refine lv_iinc (v := iI v2_21) (lv' := [(2, .int (iI v2_21)), (0, .ref (sk_ad G v0)), (1, .ref (sk_ad G 36))]) hx hb (okX4_isAnyInZone (21, .iinc 2 1, 3) (List.mem_of_getElem? (i := 13) rfl)) hl (k := 2) rfl (by rw [ev2_21]; exact iI_add _ _) (by decide) rfl (fun ls hl => ?_)
        refine lv_goto (tgt := 2) hx hb (okX4_isAnyInZone (24, .goto (-22), 3) (List.mem_of_getElem? (i := 14) rfl)) (by decide) ?_
        exact (hX_2 v2_21 I_13).1 hM hr_v2_21 H locs ls hw (lv_sub hl [1, 2, 0] rfl)
      · have hM := hM.2 c16
        refine lv_iconst (v := iI 1) hx hb (okX4_isAnyInZone (19, .iconst 1, 1) (List.mem_of_getElem? (i := 11) rfl)) rfl ?_
        exact sk_zret hx hb hr0 hlocks hK hw (Or.inr rfl) hM (okX4_isAnyInZone (20, .ireturn, 1) (List.mem_of_getElem? (i := 12) rfl))
  unfold M_Pass_isAnyInZone at hM
  intro H locs hw
  refine lv_iconst (v := iI 0) hx hb (okX4_isAnyInZone (0, .iconst 0, 1) (List.mem_of_getElem? (i := 0) rfl)) rfl ?_
  refine lv_istore_n (lv' := [(2, .int (iI 0)), (0, .ref (sk_ad G p0)), (1, .ref (sk_ad G 36))]) hx hb (okX4_isAnyInZone (1, .istore_n 2, 1) (List.mem_of_getElem? (i := 1) rfl)) rfl hl (by decide) rfl (fun ls hl => ?_)
  exact hJ_2 p0 0 I hk_p0 (by decide) hM H locs ls hw (lv_sub hl [1, 2, 0] rfl)
def rmX4_isClean : Room := { frames := 4, cells := 0, slots := 0, locals := 247 }
set_option maxHeartbeats 4000000 in
set_option maxRecDepth 100000 in
theorem c_Pass_isClean (l : Launch) (G : sk_G) {p0 : Int} (hk_p0 : kd p0 = 4) {Q : Int → sk_S → Prop} {I : sk_S} (hM : M_Pass_isClean p0 Q I) : Met l yX4_isClean wsX4_isClean rmX4_isClean (va_Pc [.ref (sk_ad G p0), .ref (sk_ad G 36)] (sk_U G 198 sk_t I)) (sk_Qz G 198 sk_t Q) 0 0 (sk_A G) := by
  refine Met.ofW (cc := cX4_isClean) (maxL := 4) (ret := (some .boolean)) (by decide) rfl ?_
  intro p e s m args below meth c s₁ B hml hv
  obtain ⟨rfl, hU, hK⟩ := hv
  have hx := B.exec
  have hb := B.bytes
  have hr0 := B.returns
  have hts := atoms_spec (ws := wsX4_isClean) B.pre
  have hown : s.vm.findClass RX4 = some m.cls := findClass_of_methodNamed B.named
  have hlocks := B.notSynchronized
  have S : CallFix p m c cX4_isClean 4 s ([.ref (sk_ad G p0), .ref (sk_ad G 36)].toArray) wsX4_isClean RX4 := ⟨hx, hb, hml, hown, hts⟩
  have hL0 := hts (.fieldLink RX4 20 "SkyLights$Pass" "size" "I") (by decide +kernel)
  have hI0 : ∀ w ∈ u_ws RX0 TX0 4, w ∈ wsX4_isClean := by decide +kernel
  have hI4 : ∀ w ∈ u_ws RX4 TX4 3, w ∈ wsX4_isClean := by decide +kernel
  have hw : sk_W G 198 sk_t I s s.heap [] := ⟨hU, va_S.rf⟩
  have hl := lv_entry ([.ref (sk_ad G p0), .ref (sk_ad G 36)]) (n := 4) (Nat.le_of_ble_eq_true rfl)
  rw [lg_entry_eq]
  generalize (lg_sl ([.ref (sk_ad G p0), .ref (sk_ad G 36)]) ++ List.replicate (4 - (lg_sl ([.ref (sk_ad G p0), .ref (sk_ad G 36)])).length) Slot.unset).toArray = ls at hl ⊢
  have hl : lv_has ls 4 [(0, .ref (sk_ad G p0)), (1, .ref (sk_ad G 36))] := hl
  suffices hgo : ∀ (H : Heap) (locs : List Loc), sk_W G 198 sk_t I s H locs → W p l e (headSpec wsX4_isClean rmX4_isClean).room s m ([.ref (sk_ad G p0), .ref (sk_ad G 36)].toArray) below meth c H locs 0 0 (MQ below (sk_Qz G 198 sk_t Q) ([.ref (sk_ad G p0), .ref (sk_ad G 36)].toArray) s 0 0 (sk_A G)) (F0 m 0 ls []) from hgo _ _ hw
  have hJ_60 : ∀ (v0 : Int) (I : sk_S), kd v0 = 4 → J_Pass_isClean_60 v0 Q I → ∀ (H : Heap) (locs : List Loc) (ls : Array Slot), sk_W G 198 sk_t I s H locs → lv_has ls 4 [(0, .ref (sk_ad G v0)), (1, .ref (sk_ad G 36))] → W p l e (headSpec wsX4_isClean rmX4_isClean).room s m ([.ref (sk_ad G p0), .ref (sk_ad G 36)].toArray) below meth c H locs 0 0 (MQ below (sk_Qz G 198 sk_t Q) ([.ref (sk_ad G p0), .ref (sk_ad G 36)].toArray) s 0 0 (sk_A G)) (F0 m 60 ls []) := by
    intro v0 I hk_v0 hM H locs ls hw hl
    unfold J_Pass_isClean_60 at hM
    refine lv_aload_n hx hb (okX4_isClean (60, .aload_n 0, 1) (List.mem_of_getElem? (i := 34) rfl)) rfl (lv_at hl 0 rfl) ?_
    refine lv_aload_n hx hb (okX4_isClean (61, .aload_n 1, 1) (List.mem_of_getElem? (i := 35) rfl)) rfl (lv_at hl 1 rfl) ?_
    refine sk_ci (sk_runV (a := v0) (C := RX4) (As := [.ref (sk_ad G 36)]) (rest := []) S (c_Pass_isAnyInZone l G hk_v0 hM) sk_blind gX4_isClean_X4_isAnyInZone rfl hdX4_isAnyInZone ⟨⟨rfl, rfl⟩, Nat.le_of_ble_eq_true rfl, Nat.le_of_ble_eq_true rfl⟩ (sk_recv hK hw hk_v0 (kd_in hk_v0) (by decide) rfl) (sk_pre hK hw) rfl hl.1 rfl (Nat.le_of_ble_eq_true rfl) (okX4_isClean (62, .invokevirtual 74, 3) (List.mem_of_getElem? (i := 36) rfl)) ⟨Nat.zero_le _, Nat.zero_le _⟩) hw (fun r_62 I_62 H locs hr_r_62 hM hw => ?_)
    obtain ⟨hb_r_62, hM⟩ := hM
    refine sk_if_ne (tgt := 72) hx hb hr_r_62 (okX4_isClean (65, .ifCond .ne 7, 3) (List.mem_of_getElem? (i := 37) rfl)) (by decide) (fun c65 => ?_) (fun c65 => ?_)
    · have hM := hM.1 c65
      refine lv_iconst (v := iI 0) hx hb (okX4_isClean (72, .iconst 0, 1) (List.mem_of_getElem? (i := 40) rfl)) rfl ?_
      exact sk_zret hx hb hr0 hlocks hK hw (Or.inl rfl) hM (okX4_isClean (73, .ireturn, 1) (List.mem_of_getElem? (i := 41) rfl))
    · have hM := hM.2 c65
      refine lv_iconst (v := iI 1) hx hb (okX4_isClean (68, .iconst 1, 1) (List.mem_of_getElem? (i := 38) rfl)) rfl ?_
      refine lv_goto (tgt := 73) hx hb (okX4_isClean (69, .goto 4, 3) (List.mem_of_getElem? (i := 39) rfl)) (by decide) ?_
      exact sk_zret hx hb hr0 hlocks hK hw (Or.inr rfl) hM (okX4_isClean (73, .ireturn, 1) (List.mem_of_getElem? (i := 41) rfl))
  have hJ_2 : ∀ (v0 v2 : Int) (I : sk_S), kd v0 = 4 → rI v2 → L_Pass_isClean_2 v0 Q v2 I → ∀ (H : Heap) (locs : List Loc) (ls : Array Slot), sk_W G 198 sk_t I s H locs → lv_has ls 4 [(0, .ref (sk_ad G v0)), (1, .ref (sk_ad G 36)), (2, .int (iI v2))] → W p l e (headSpec wsX4_isClean rmX4_isClean).room s m ([.ref (sk_ad G p0), .ref (sk_ad G 36)].toArray) below meth c H locs 0 0 (MQ below (sk_Qz G 198 sk_t Q) ([.ref (sk_ad G p0), .ref (sk_ad G 36)].toArray) s 0 0 (sk_A G)) (F0 m 2 ls []) := by
    intro v0 v2 I hk_v0 hr_v2 hM H locs ls hw hl
    unfold L_Pass_isClean_2 at hM
    obtain ⟨X_2, hX_2⟩ : ∃ X : Int → sk_S → Prop, ∀ (v2 : Int) (I : sk_S), X v2 I ↔ (rI v2 → ∀ (H : Heap) (locs : List Loc) (ls : Array Slot), sk_W G 198 sk_t I s H locs → lv_has ls 4 [(0, .ref (sk_ad G v0)), (1, .ref (sk_ad G 36)), (2, .int (iI v2))] → W p l e (headSpec wsX4_isClean rmX4_isClean).room s m ([.ref (sk_ad G p0), .ref (sk_ad G 36)].toArray) below meth c H locs 0 0 (MQ below (sk_Qz G 198 sk_t Q) ([.ref (sk_ad G p0), .ref (sk_ad G 36)].toArray) s 0 0 (sk_A G)) (F0 m 2 ls [])) := ⟨_, fun _ _ => Iff.rfl⟩
    have hJ_54 : ∀ (v2 : Int) (I : sk_S), rI v2 → J_Pass_isClean_54 v0 v2 Q X_2 I → ∀ (H : Heap) (locs : List Loc) (ls : Array Slot), sk_W G 198 sk_t I s H locs → lv_has ls 4 [(0, .ref (sk_ad G v0)), (1, .ref (sk_ad G 36)), (2, .int (iI v2))] → W p l e (headSpec wsX4_isClean rmX4_isClean).room s m ([.ref (sk_ad G p0), .ref (sk_ad G 36)].toArray) below meth c H locs 0 0 (MQ below (sk_Qz G 198 sk_t Q) ([.ref (sk_ad G p0), .ref (sk_ad G 36)].toArray) s 0 0 (sk_A G)) (F0 m 54 ls []) := by
      intro v2 I hr_v2 hM H locs ls hw hl
      unfold J_Pass_isClean_54 at hM
      obtain ⟨hr7, hM⟩ := hM
      obtain ⟨v2_54, ev2_54⟩ : ∃ y : Int, y = v2 + 1 := ⟨_, rfl⟩
      have hM := hM v2_54 ev2_54
      have hr_v2_54 : rI v2_54 := by rw [ev2_54]; exact hr7
      refine lv_iinc (v := iI v2_54) (lv' := [(2, .int (iI v2_54)), (0, .ref (sk_ad G v0)), (1, .ref (sk_ad G 36))]) hx hb (okX4_isClean (54, .iinc 2 1, 3) (List.mem_of_getElem? (i := 32) rfl)) hl (k := 2) rfl (by rw [ev2_54]; exact iI_add _ _) (by decide) rfl (fun ls hl => ?_)
      refine lv_goto (tgt := 2) hx hb (okX4_isClean (57, .goto (-55), 3) (List.mem_of_getElem? (i := 33) rfl)) (by decide) ?_
      exact (hX_2 v2_54 I).1 hM hr_v2_54 H locs ls hw (lv_sub hl [1, 2, 0] rfl)
    have hJ_14 : ∀ (v2 v3 : Int) (I : sk_S), rI v2 → rI v3 → L_Pass_isClean_14 v0 v2 Q X_2 v3 I → ∀ (H : Heap) (locs : List Loc) (ls : Array Slot), sk_W G 198 sk_t I s H locs → lv_has ls 4 [(0, .ref (sk_ad G v0)), (1, .ref (sk_ad G 36)), (2, .int (iI v2)), (3, .int (iI v3))] → W p l e (headSpec wsX4_isClean rmX4_isClean).room s m ([.ref (sk_ad G p0), .ref (sk_ad G 36)].toArray) below meth c H locs 0 0 (MQ below (sk_Qz G 198 sk_t Q) ([.ref (sk_ad G p0), .ref (sk_ad G 36)].toArray) s 0 0 (sk_A G)) (F0 m 14 ls []) := by
      intro v2 v3 I hr_v2 hr_v3 hM H locs ls hw hl
      unfold L_Pass_isClean_14 at hM
      obtain ⟨X_14, hX_14⟩ : ∃ X : Int → sk_S → Prop, ∀ (v3 : Int) (I : sk_S), X v3 I ↔ (rI v3 → ∀ (H : Heap) (locs : List Loc) (ls : Array Slot), sk_W G 198 sk_t I s H locs → lv_has ls 4 [(0, .ref (sk_ad G v0)), (1, .ref (sk_ad G 36)), (2, .int (iI v2)), (3, .int (iI v3))] → W p l e (headSpec wsX4_isClean rmX4_isClean).room s m ([.ref (sk_ad G p0), .ref (sk_ad G 36)].toArray) below meth c H locs 0 0 (MQ below (sk_Qz G 198 sk_t Q) ([.ref (sk_ad G p0), .ref (sk_ad G 36)].toArray) s 0 0 (sk_A G)) (F0 m 14 ls [])) := ⟨_, fun _ _ => Iff.rfl⟩
      refine (hX_14 v3 I).1 (hM X_14 (fun v3 I hM => (hX_14 v3 I).2 (fun hr_v3 H locs ls hw hl => ?_))) hr_v3 H locs ls hw hl
      refine lv_iload_n hx hb (okX4_isClean (14, .iload_n 3, 1) (List.mem_of_getElem? (i := 10) rfl)) rfl (lv_at hl 3 rfl) ?_
      refine lv_aload_n hx hb (okX4_isClean (15, .aload_n 0, 1) (List.mem_of_getElem? (i := 11) rfl)) rfl (lv_at hl 0 rfl) ?_
      have hr3 := hw.1.2.2 v0 1
      refine sk_geti S hK hw hk_v0 (kd_in hk_v0) (C := RX4) (T := TX4) (N := 3) rfl hI4 1 ⟨by decide, rfl, by decide, rfl⟩ rfl (k' := 1) rfl hL0 (okX4_isClean (16, .getfield 20, 3) (List.mem_of_getElem? (i := 12) rfl)) ?_
      refine sk_icmp_ge (tgt := 54) hx hb hr_v3 hr3 (okX4_isClean (19, .if_icmp .ge 35, 3) (List.mem_of_getElem? (i := 13) rfl)) (by decide) (fun c19 => ?_) (fun c19 => ?_)
      · have hM := hM.1 c19
        exact hJ_54 v2 I hr_v2 hM H locs ls hw (lv_sub hl [0, 1, 2] rfl)
      · have hM := hM.2 c19
        refine lv_aload_n hx hb (okX4_isClean (22, .aload_n 0, 1) (List.mem_of_getElem? (i := 14) rfl)) rfl (lv_at hl 0 rfl) ?_
        refine lv_iload_n hx hb (okX4_isClean (23, .iload_n 2, 1) (List.mem_of_getElem? (i := 15) rfl)) rfl (lv_at hl 2 rfl) ?_
        refine lv_iload_n hx hb (okX4_isClean (24, .iload_n 3, 1) (List.mem_of_getElem? (i := 16) rfl)) rfl (lv_at hl 3 rfl) ?_
        refine lv_aload_n hx hb (okX4_isClean (25, .aload_n 0, 1) (List.mem_of_getElem? (i := 17) rfl)) rfl (lv_at hl 0 rfl) ?_
        refine lv_iload_n hx hb (okX4_isClean (26, .iload_n 3, 1) (List.mem_of_getElem? (i := 18) rfl)) rfl (lv_at hl 3 rfl) ?_
        refine sk_ci (sk_runV (a := v0) (C := RX4) (As := [.int (iI v3)]) (rest := [.int (iI v3), .int (iI v2), .ref (sk_ad G v0)]) S (c_Pass_delayOf l G hk_v0 hr_v3 hM) sk_blind gX4_isClean_X4_delayOf rfl hdX4_delayOf ⟨⟨rfl, rfl⟩, Nat.le_of_ble_eq_true rfl, Nat.le_of_ble_eq_true rfl⟩ (sk_recv hK hw hk_v0 (kd_in hk_v0) (by decide) rfl) (sk_pre hK hw) rfl hl.1 rfl (Nat.le_of_ble_eq_true rfl) (okX4_isClean (27, .invokevirtual 65, 3) (List.mem_of_getElem? (i := 19) rfl)) ⟨Nat.zero_le _, Nat.zero_le _⟩) hw (fun r_27 I_27 H locs hr_r_27 hM hw => ?_)
        refine lv_aload_n hx hb (okX4_isClean (30, .aload_n 0, 1) (List.mem_of_getElem? (i := 20) rfl)) rfl (lv_at hl 0 rfl) ?_
        refine lv_iload_n hx hb (okX4_isClean (31, .iload_n 2, 1) (List.mem_of_getElem? (i := 21) rfl)) rfl (lv_at hl 2 rfl) ?_
        refine sk_ci (sk_runV (a := v0) (C := RX4) (As := [.int (iI v2)]) (rest := [.int (iI r_27), .int (iI v3), .int (iI v2), .ref (sk_ad G v0)]) S (c_Pass_delayOf l G hk_v0 hr_v2 hM) sk_blind gX4_isClean_X4_delayOf rfl hdX4_delayOf ⟨⟨rfl, rfl⟩, Nat.le_of_ble_eq_true rfl, Nat.le_of_ble_eq_true rfl⟩ (sk_recv hK hw hk_v0 (kd_in hk_v0) (by decide) rfl) (sk_pre hK hw) rfl hl.1 rfl (Nat.le_of_ble_eq_true rfl) (okX4_isClean (32, .invokevirtual 65, 3) (List.mem_of_getElem? (i := 22) rfl)) ⟨Nat.zero_le _, Nat.zero_le _⟩) hw (fun r_32 I_32 H locs hr_r_32 hM hw => ?_)
        refine sk_isub hx hb (okX4_isClean (35, .isub, 1) (List.mem_of_getElem? (i := 23) rfl)) ?_
        refine lv_aload_n hx hb (okX4_isClean (36, .aload_n 1, 1) (List.mem_of_getElem? (i := 24) rfl)) rfl (lv_at hl 1 rfl) ?_
        have hr4 := hw.1.2.2 36 0
        refine sk_getiN S hK hw kdn_36 (kd_in kdn_36) (C := RX0) (T := TX0) (N := 4) rfl hI0 0 ⟨by decide, rfl, by decide, rfl⟩ rfl (k' := 0) rfl (va_Nw.use rfl (hK.2.1 ("SkyLights$Pass", 68, "SkyLights$Air", "gap", "I") (by decide +kernel))) (okX4_isClean (37, .getfield 68, 3) (List.mem_of_getElem? (i := 25) rfl)) ?_
        obtain ⟨hr5, hM⟩ := hM
        refine sk_ci (sk_runV (a := v0) (C := RX4) (As := [.int (iI v2), .int (iI v3), .int (iI (r_27 - r_32)), .int (iI (I_32 36 0))]) (rest := []) S (c_Pass_meet l G hk_v0 hr_v2 hr_v3 hr5 hr4 hM) sk_blind gX4_isClean_X4_meet rfl hdX4_meet ⟨⟨rfl, rfl⟩, Nat.le_of_ble_eq_true rfl, Nat.le_of_ble_eq_true rfl⟩ (sk_recv hK hw hk_v0 (kd_in hk_v0) (by decide) rfl) (sk_pre hK hw) rfl hl.1 rfl (Nat.le_of_ble_eq_true rfl) (okX4_isClean (40, .invokevirtual 71, 3) (List.mem_of_getElem? (i := 26) rfl)) ⟨Nat.zero_le _, Nat.zero_le _⟩) hw (fun r_40 I_40 H locs hr_r_40 hM hw => ?_)
        obtain ⟨hb_r_40, hM⟩ := hM
        refine sk_if_eq (tgt := 48) hx hb hr_r_40 (okX4_isClean (43, .ifCond .eq 5, 3) (List.mem_of_getElem? (i := 27) rfl)) (by decide) (fun c43 => ?_) (fun c43 => ?_)
        · have hM := hM.1 c43
          obtain ⟨hr6, hM⟩ := hM
          obtain ⟨v3_48, ev3_48⟩ : ∃ y : Int, y = v3 + 1 := ⟨_, rfl⟩
          have hM := hM v3_48 ev3_48
          have hr_v3_48 : rI v3_48 := by rw [ev3_48]; exact hr6
          refine lv_iinc (v := iI v3_48) (lv' := [(3, .int (iI v3_48)), (0, .ref (sk_ad G v0)), (1, .ref (sk_ad G 36)), (2, .int (iI v2))]) hx hb (okX4_isClean (48, .iinc 3 1, 3) (List.mem_of_getElem? (i := 30) rfl)) hl (k := 3) rfl (by rw [ev3_48]; exact iI_add _ _) (by decide) rfl (fun ls hl => ?_)
          refine lv_goto (tgt := 14) hx hb (okX4_isClean (51, .goto (-37), 3) (List.mem_of_getElem? (i := 31) rfl)) (by decide) ?_
          exact (hX_14 v3_48 I_40).1 hM hr_v3_48 H locs ls hw (lv_sub hl [1, 2, 3, 0] rfl)
        · have hM := hM.2 c43
          refine lv_iconst (v := iI 0) hx hb (okX4_isClean (46, .iconst 0, 1) (List.mem_of_getElem? (i := 28) rfl)) rfl ?_
          exact sk_zret hx hb hr0 hlocks hK hw (Or.inl rfl) hM (okX4_isClean (47, .ireturn, 1) (List.mem_of_getElem? (i := 29) rfl))
    refine (hX_2 v2 I).1 (hM X_2 (fun v2 I hM => (hX_2 v2 I).2 (fun hr_v2 H locs ls hw hl => ?_))) hr_v2 H locs ls hw hl
    refine lv_iload_n hx hb (okX4_isClean (2, .iload_n 2, 1) (List.mem_of_getElem? (i := 2) rfl)) rfl (lv_at hl 2 rfl) ?_
    refine lv_aload_n hx hb (okX4_isClean (3, .aload_n 0, 1) (List.mem_of_getElem? (i := 3) rfl)) rfl (lv_at hl 0 rfl) ?_
    have hr1 := hw.1.2.2 v0 1
    refine sk_geti S hK hw hk_v0 (kd_in hk_v0) (C := RX4) (T := TX4) (N := 3) rfl hI4 1 ⟨by decide, rfl, by decide, rfl⟩ rfl (k' := 1) rfl hL0 (okX4_isClean (4, .getfield 20, 3) (List.mem_of_getElem? (i := 4) rfl)) ?_
    refine sk_icmp_ge (tgt := 60) hx hb hr_v2 hr1 (okX4_isClean (7, .if_icmp .ge 53, 3) (List.mem_of_getElem? (i := 5) rfl)) (by decide) (fun c7 => ?_) (fun c7 => ?_)
    · have hM := hM.1 c7
      exact hJ_60 v0 I hk_v0 hM H locs ls hw (lv_sub hl [0, 1] rfl)
    · have hM := hM.2 c7
      refine lv_iload_n hx hb (okX4_isClean (10, .iload_n 2, 1) (List.mem_of_getElem? (i := 6) rfl)) rfl (lv_at hl 2 rfl) ?_
      refine lv_iconst (v := iI 1) hx hb (okX4_isClean (11, .iconst 1, 1) (List.mem_of_getElem? (i := 7) rfl)) rfl ?_
      refine sk_iadd hx hb (okX4_isClean (12, .iadd, 1) (List.mem_of_getElem? (i := 8) rfl)) ?_
      obtain ⟨hr2, hM⟩ := hM
      refine sk_nm (fun v3_13 ev3_13 => ?_)
      have hM := hM v3_13 ev3_13
      have hr_v3_13 : rI v3_13 := by rw [ev3_13]; exact hr2
      refine lv_istore_n (lv' := [(3, .int (iI v3_13)), (0, .ref (sk_ad G v0)), (1, .ref (sk_ad G 36)), (2, .int (iI v2))]) hx hb (okX4_isClean (13, .istore_n 3, 1) (List.mem_of_getElem? (i := 9) rfl)) rfl hl (by decide) rfl (fun ls hl => ?_)
      exact hJ_14 v2 v3_13 I hr_v2 hr_v3_13 hM H locs ls hw (lv_sub hl [1, 2, 3, 0] rfl)
  unfold M_Pass_isClean at hM
  intro H locs hw
  refine lv_iconst (v := iI 0) hx hb (okX4_isClean (0, .iconst 0, 1) (List.mem_of_getElem? (i := 0) rfl)) rfl ?_
  refine lv_istore_n (lv' := [(2, .int (iI 0)), (0, .ref (sk_ad G p0)), (1, .ref (sk_ad G 36))]) hx hb (okX4_isClean (1, .istore_n 2, 1) (List.mem_of_getElem? (i := 1) rfl)) rfl hl (by decide) rfl (fun ls hl => ?_)
  exact hJ_2 p0 0 I hk_p0 (by decide) hM H locs ls hw (lv_sub hl [1, 2, 0] rfl)
def rmX5_size : Room := { frames := 0, cells := 0, slots := 0, locals := 0 }
set_option maxHeartbeats 4000000 in
set_option maxRecDepth 100000 in
theorem c_Places_size (l : Launch) (G : sk_G) {p0 : Int} (hk_p0 : kd p0 = 5) {Q : Int → sk_S → Prop} {I : sk_S} (hM : M_Places_size p0 Q I) : Met l yX5_size wsX5_size rmX5_size (va_Pc [.ref (sk_ad G p0)] (sk_U G 198 sk_t I)) (sk_Qi G 198 sk_t Q) 0 0 (sk_A G) := by
  refine Met.ofW (cc := cX5_size) (maxL := 1) (ret := (some .int)) (by decide) rfl ?_
  intro p e s m args below meth c s₁ B hml hv
  obtain ⟨rfl, hU, hK⟩ := hv
  have hx := B.exec
  have hb := B.bytes
  have hr0 := B.returns
  have hts := atoms_spec (ws := wsX5_size) B.pre
  have hown : s.vm.findClass RX5 = some m.cls := findClass_of_methodNamed B.named
  have hlocks := B.notSynchronized
  have S : CallFix p m c cX5_size 1 s ([.ref (sk_ad G p0)].toArray) wsX5_size RX5 := ⟨hx, hb, hml, hown, hts⟩
  have hL0 := hts (.fieldLink RX5 20 "SkyLights$Places" "size" "I") (by decide +kernel)
  have hI5 : ∀ w ∈ u_ws RX5 TX5 2, w ∈ wsX5_size := by decide +kernel
  have hw : sk_W G 198 sk_t I s s.heap [] := ⟨hU, va_S.rf⟩
  have hl := lv_entry ([.ref (sk_ad G p0)]) (n := 1) (Nat.le_of_ble_eq_true rfl)
  rw [lg_entry_eq]
  generalize (lg_sl ([.ref (sk_ad G p0)]) ++ List.replicate (1 - (lg_sl ([.ref (sk_ad G p0)])).length) Slot.unset).toArray = ls at hl ⊢
  have hl : lv_has ls 1 [(0, .ref (sk_ad G p0))] := hl
  suffices hgo : ∀ (H : Heap) (locs : List Loc), sk_W G 198 sk_t I s H locs → W p l e (headSpec wsX5_size rmX5_size).room s m ([.ref (sk_ad G p0)].toArray) below meth c H locs 0 0 (MQ below (sk_Qi G 198 sk_t Q) ([.ref (sk_ad G p0)].toArray) s 0 0 (sk_A G)) (F0 m 0 ls []) from hgo _ _ hw
  unfold M_Places_size at hM
  intro H locs hw
  refine lv_aload_n hx hb (okX5_size (0, .aload_n 0, 1) (List.mem_of_getElem? (i := 0) rfl)) rfl (lv_at hl 0 rfl) ?_
  have hr1 := hw.1.2.2 p0 1
  refine sk_geti S hK hw hk_p0 (kd_in hk_p0) (C := RX5) (T := TX5) (N := 2) rfl hI5 1 ⟨by decide, rfl, by decide, rfl⟩ rfl (k' := 1) rfl hL0 (okX5_size (1, .getfield 20, 3) (List.mem_of_getElem? (i := 1) rfl)) ?_
  exact sk_iret hx hb hr0 hlocks hK hw hr1 hM (okX5_size (4, .ireturn, 1) (List.mem_of_getElem? (i := 2) rfl))
def rmX5_told : Room := { frames := 1, cells := 0, slots := 0, locals := 53 }
set_option maxHeartbeats 4000000 in
set_option maxRecDepth 100000 in
theorem c_Places_told (l : Launch) (G : sk_G) {p0 p1 p2 : Int} (hk_p0 : kd p0 = 5) (hr_p1 : rI p1) (hr_p2 : rI p2) {Q : Int → sk_S → Prop} {I : sk_S} (hM : M_Places_told p0 p1 p2 Q I) : Met l yX5_told wsX5_told rmX5_told (va_Pc [.ref (sk_ad G p0), .int (iI p1), .int (iI p2)] (sk_U G 198 sk_t I)) (sk_Qi G 198 sk_t Q) 0 0 (sk_A G) := by
  refine Met.ofW (cc := cX5_told) (maxL := 3) (ret := (some .int)) (by decide) rfl ?_
  intro p e s m args below meth c s₁ B hml hv
  obtain ⟨rfl, hU, hK⟩ := hv
  have hx := B.exec
  have hb := B.bytes
  have hr0 := B.returns
  have hts := atoms_spec (ws := wsX5_told) B.pre
  have hown : s.vm.findClass RX5 = some m.cls := findClass_of_methodNamed B.named
  have hlocks := B.notSynchronized
  have S : CallFix p m c cX5_told 3 s ([.ref (sk_ad G p0), .int (iI p1), .int (iI p2)].toArray) wsX5_told RX5 := ⟨hx, hb, hml, hown, hts⟩
  have hL0 := hts (.fieldLink RX5 16 "SkyLights$Places" "cells" "LSkyLights$Row;") (by decide +kernel)
  have hI5 : ∀ w ∈ u_ws RX5 TX5 2, w ∈ wsX5_told := by decide +kernel
  have hw : sk_W G 198 sk_t I s s.heap [] := ⟨hU, va_S.rf⟩
  have hl := lv_entry ([.ref (sk_ad G p0), .int (iI p1), .int (iI p2)]) (n := 3) (Nat.le_of_ble_eq_true rfl)
  rw [lg_entry_eq]
  generalize (lg_sl ([.ref (sk_ad G p0), .int (iI p1), .int (iI p2)]) ++ List.replicate (3 - (lg_sl ([.ref (sk_ad G p0), .int (iI p1), .int (iI p2)])).length) Slot.unset).toArray = ls at hl ⊢
  have hl : lv_has ls 3 [(0, .ref (sk_ad G p0)), (1, .int (iI p1)), (2, .int (iI p2))] := hl
  suffices hgo : ∀ (H : Heap) (locs : List Loc), sk_W G 198 sk_t I s H locs → W p l e (headSpec wsX5_told rmX5_told).room s m ([.ref (sk_ad G p0), .int (iI p1), .int (iI p2)].toArray) below meth c H locs 0 0 (MQ below (sk_Qi G 198 sk_t Q) ([.ref (sk_ad G p0), .int (iI p1), .int (iI p2)].toArray) s 0 0 (sk_A G)) (F0 m 0 ls []) from hgo _ _ hw
  unfold M_Places_told at hM
  intro H locs hw
  refine lv_aload_n hx hb (okX5_told (0, .aload_n 0, 1) (List.mem_of_getElem? (i := 0) rfl)) rfl (lv_at hl 0 rfl) ?_
  refine sk_getr (b := (p0 + 1)) S hK hw hk_p0 (kd_in hk_p0) (C := RX5) (T := TX5) (N := 2) rfl hI5 0 ⟨by decide, rfl, by decide, rfl⟩ rfl (k' := 0) rfl rfl (rf5 hk_p0) hL0 (okX5_told (1, .getfield 16, 3) (List.mem_of_getElem? (i := 1) rfl)) ?_
  refine lv_iload_n hx hb (okX5_told (4, .iload_n 1, 1) (List.mem_of_getElem? (i := 2) rfl)) rfl (lv_at hl 1 rfl) ?_
  refine lv_iconst (v := iI 4) hx hb (okX5_told (5, .iconst 4, 1) (List.mem_of_getElem? (i := 3) rfl)) rfl ?_
  refine sk_imul hx hb (okX5_told (6, .imul, 1) (List.mem_of_getElem? (i := 4) rfl)) ?_
  refine lv_iload_n hx hb (okX5_told (7, .iload_n 2, 1) (List.mem_of_getElem? (i := 5) rfl)) rfl (lv_at hl 2 rfl) ?_
  refine sk_iadd hx hb (okX5_told (8, .iadd, 1) (List.mem_of_getElem? (i := 6) rfl)) ?_
  obtain ⟨hr1, hM⟩ := hM
  refine sk_ci (sk_runV (a := (p0 + 1)) (C := RX7) (As := [.int (iI ((p1 * 4) + p2))]) (rest := []) S (c_Row_at l G (k5 hk_p0) hr1 hM) sk_blind gX5_told_X7_at rfl hdX7_at ⟨⟨rfl, rfl⟩, Nat.le_of_ble_eq_true rfl, Nat.le_of_ble_eq_true rfl⟩ (sk_recv hK hw (k5 hk_p0) (kd_in (k5 hk_p0)) (by decide) rfl) (sk_pre hK hw) rfl hl.1 rfl (Nat.le_of_ble_eq_true rfl) (okX5_told (9, .invokevirtual 28, 3) (List.mem_of_getElem? (i := 7) rfl)) ⟨Nat.zero_le _, Nat.zero_le _⟩) hw (fun r_9 I_9 H locs hr_r_9 hM hw => ?_)
  exact sk_iret hx hb hr0 hlocks hK hw hr_r_9 hM (okX5_told (12, .ireturn, 1) (List.mem_of_getElem? (i := 8) rfl))
def rmX6_goal : Room := { frames := 1, cells := 0, slots := 0, locals := 53 }
set_option maxHeartbeats 4000000 in
set_option maxRecDepth 100000 in
theorem c_Planner_goal (l : Launch) (G : sk_G) {p1 : Int} (hr_p1 : rI p1) {Q : Int → sk_S → Prop} {I : sk_S} (hM : M_Planner_goal p1 Q I) : Met l yX6_goal wsX6_goal rmX6_goal (va_Pc [.ref (sk_ad G 37), .int (iI p1)] (sk_U G 198 sk_t I)) (sk_Qi G 198 sk_t Q) 0 0 (sk_A G) := by
  refine Met.ofW (cc := cX6_goal) (maxL := 2) (ret := (some .int)) (by decide) rfl ?_
  intro p e s m args below meth c s₁ B hml hv
  obtain ⟨rfl, hU, hK⟩ := hv
  have hx := B.exec
  have hb := B.bytes
  have hr0 := B.returns
  have hts := atoms_spec (ws := wsX6_goal) B.pre
  have hown : s.vm.findClass RX6 = some m.cls := findClass_of_methodNamed B.named
  have hlocks := B.notSynchronized
  have S : CallFix p m c cX6_goal 2 s ([.ref (sk_ad G 37), .int (iI p1)].toArray) wsX6_goal RX6 := ⟨hx, hb, hml, hown, hts⟩
  have hL0 := hts (.fieldLink RX6 23 "SkyLights$Planner" "goals" "LSkyLights$Row;") (by decide +kernel)
  have hI6 : ∀ w ∈ u_ws RX6 TX6 3, w ∈ wsX6_goal := by decide +kernel
  have hw : sk_W G 198 sk_t I s s.heap [] := ⟨hU, va_S.rf⟩
  have hl := lv_entry ([.ref (sk_ad G 37), .int (iI p1)]) (n := 2) (Nat.le_of_ble_eq_true rfl)
  rw [lg_entry_eq]
  generalize (lg_sl ([.ref (sk_ad G 37), .int (iI p1)]) ++ List.replicate (2 - (lg_sl ([.ref (sk_ad G 37), .int (iI p1)])).length) Slot.unset).toArray = ls at hl ⊢
  have hl : lv_has ls 2 [(0, .ref (sk_ad G 37)), (1, .int (iI p1))] := hl
  suffices hgo : ∀ (H : Heap) (locs : List Loc), sk_W G 198 sk_t I s H locs → W p l e (headSpec wsX6_goal rmX6_goal).room s m ([.ref (sk_ad G 37), .int (iI p1)].toArray) below meth c H locs 0 0 (MQ below (sk_Qi G 198 sk_t Q) ([.ref (sk_ad G 37), .int (iI p1)].toArray) s 0 0 (sk_A G)) (F0 m 0 ls []) from hgo _ _ hw
  unfold M_Planner_goal at hM
  intro H locs hw
  refine lv_aload_n hx hb (okX6_goal (0, .aload_n 0, 1) (List.mem_of_getElem? (i := 0) rfl)) rfl (lv_at hl 0 rfl) ?_
  refine sk_getr (b := 42) S hK hw kdn_37 (kd_in kdn_37) (C := RX6) (T := TX6) (N := 3) rfl hI6 2 ⟨by decide, rfl, by decide, rfl⟩ rfl (k' := 2) rfl rfl (by decide +kernel) hL0 (okX6_goal (1, .getfield 23, 3) (List.mem_of_getElem? (i := 1) rfl)) ?_
  refine lv_iload_n hx hb (okX6_goal (4, .iload_n 1, 1) (List.mem_of_getElem? (i := 2) rfl)) rfl (lv_at hl 1 rfl) ?_
  refine sk_ci (sk_runV (a := 42) (C := RX7) (As := [.int (iI p1)]) (rest := []) S (c_Row_at l G kdn_42 hr_p1 hM) sk_blind gX6_goal_X7_at rfl hdX7_at ⟨⟨rfl, rfl⟩, Nat.le_of_ble_eq_true rfl, Nat.le_of_ble_eq_true rfl⟩ (sk_recv hK hw kdn_42 (kd_in kdn_42) (by decide) rfl) (sk_pre hK hw) rfl hl.1 rfl (Nat.le_of_ble_eq_true rfl) (okX6_goal (5, .invokevirtual 26, 3) (List.mem_of_getElem? (i := 3) rfl)) ⟨Nat.zero_le _, Nat.zero_le _⟩) hw (fun r_5 I_5 H locs hr_r_5 hM hw => ?_)
  exact sk_iret hx hb hr0 hlocks hK hw hr_r_5 hM (okX6_goal (8, .ireturn, 1) (List.mem_of_getElem? (i := 4) rfl))
