def rmJ6_bitCount_0f7a4 : Room := { frames := 0, cells := 0, slots := 0, locals := 0 }
set_option maxHeartbeats 4000000 in
set_option maxRecDepth 100000 in
theorem c_bitCount (l : Launch) (G : sk_G) {p0 : Int} (hr_p0 : rI p0) {Q : Int → sk_S → Prop} {I : sk_S} (hM : M_bitCount p0 Q I) : Met l yJ6_bitCount_0f7a4 wsJ6_bitCount_0f7a4 rmJ6_bitCount_0f7a4 (va_Pc [.int (iI p0)] (sk_U G 198 sk_t I)) (sk_Qi G 198 sk_t Q) 0 0 (sk_A G) := by
  refine Met.ofW (cc := cJ6_bitCount_0f7a4) (maxL := 1) (ret := (some .int)) (by decide) rfl ?_
  intro p e s m args below meth c s₁ B hml hv
  obtain ⟨rfl, hU, hK⟩ := hv
  have hx := B.exec
  have hb := B.bytes
  have hr0 := B.returns
  have hts := atoms_spec (ws := wsJ6_bitCount_0f7a4) B.pre
  have hown : s.vm.findClass RJ6 = some m.cls := findClass_of_methodNamed B.named
  have hlocks := B.notSynchronized
  have S : CallFix p m c cJ6_bitCount_0f7a4 1 s ([.int (iI p0)].toArray) wsJ6_bitCount_0f7a4 RJ6 := ⟨hx, hb, hml, hown, hts⟩
  have hL0 := hts (.constant RJ6 265 (1431655765)) (by decide +kernel)
  have hL1 := hts (.constant RJ6 266 (858993459)) (by decide +kernel)
  have hL2 := hts (.constant RJ6 267 (252645135)) (by decide +kernel)
  have hw : sk_W G 198 sk_t I s s.heap [] := ⟨hU, va_S.rf⟩
  have hl := lv_entry ([.int (iI p0)]) (n := 1) (Nat.le_of_ble_eq_true rfl)
  rw [lg_entry_eq]
  generalize (lg_sl ([.int (iI p0)]) ++ List.replicate (1 - (lg_sl ([.int (iI p0)])).length) Slot.unset).toArray = ls at hl ⊢
  have hl : lv_has ls 1 [(0, .int (iI p0))] := hl
  suffices hgo : ∀ (H : Heap) (locs : List Loc), sk_W G 198 sk_t I s H locs → W p l e (headSpec wsJ6_bitCount_0f7a4 rmJ6_bitCount_0f7a4).room s m ([.int (iI p0)].toArray) below meth c H locs 0 0 (MQ below (sk_Qi G 198 sk_t Q) ([.int (iI p0)].toArray) s 0 0 (sk_A G)) (F0 m 0 ls []) from hgo _ _ hw
  unfold M_bitCount at hM
  intro H locs hw
  refine lv_iload_n hx hb (okJ6_bitCount_0f7a4 (0, .iload_n 0, 1) (List.mem_of_getElem? (i := 0) rfl)) rfl (lv_at hl 0 rfl) ?_
  refine lv_iload_n hx hb (okJ6_bitCount_0f7a4 (1, .iload_n 0, 1) (List.mem_of_getElem? (i := 1) rfl)) rfl (lv_at hl 0 rfl) ?_
  refine lv_iconst (v := iI 1) hx hb (okJ6_bitCount_0f7a4 (2, .iconst 1, 1) (List.mem_of_getElem? (i := 2) rfl)) rfl ?_
  refine sk_iushr hx hb (okJ6_bitCount_0f7a4 (3, .iushr, 1) (List.mem_of_getElem? (i := 3) rfl)) ?_
  refine lv_ldcw (v := iI 1431655765) hx hb hown (by rw [show iI 1431655765 = (1431655765 : Int32) from by decide +kernel]; exact hL0) (okJ6_bitCount_0f7a4 (4, .ldc_w 265, 3) (List.mem_of_getElem? (i := 4) rfl)) ?_
  refine sk_iand hx hb (okJ6_bitCount_0f7a4 (7, .iand, 1) (List.mem_of_getElem? (i := 5) rfl)) ?_
  refine sk_isub hx hb (okJ6_bitCount_0f7a4 (8, .isub, 1) (List.mem_of_getElem? (i := 6) rfl)) ?_
  obtain ⟨hr1, hM⟩ := hM
  refine sk_nm (fun v0_9 ev0_9 => ?_)
  have hM := hM v0_9 ev0_9
  have hr_v0_9 : rI v0_9 := by rw [ev0_9]; exact hr1
  refine lv_istore_n (lv' := [(0, .int (iI v0_9))]) hx hb (okJ6_bitCount_0f7a4 (9, .istore_n 0, 1) (List.mem_of_getElem? (i := 7) rfl)) rfl hl (by decide) rfl (fun ls hl => ?_)
  refine lv_iload_n hx hb (okJ6_bitCount_0f7a4 (10, .iload_n 0, 1) (List.mem_of_getElem? (i := 8) rfl)) rfl (lv_at hl 0 rfl) ?_
  refine lv_ldcw (v := iI 858993459) hx hb hown (by rw [show iI 858993459 = (858993459 : Int32) from by decide +kernel]; exact hL1) (okJ6_bitCount_0f7a4 (11, .ldc_w 266, 3) (List.mem_of_getElem? (i := 9) rfl)) ?_
  refine sk_iand hx hb (okJ6_bitCount_0f7a4 (14, .iand, 1) (List.mem_of_getElem? (i := 10) rfl)) ?_
  refine lv_iload_n hx hb (okJ6_bitCount_0f7a4 (15, .iload_n 0, 1) (List.mem_of_getElem? (i := 11) rfl)) rfl (lv_at hl 0 rfl) ?_
  refine lv_iconst (v := iI 2) hx hb (okJ6_bitCount_0f7a4 (16, .iconst 2, 1) (List.mem_of_getElem? (i := 12) rfl)) rfl ?_
  refine sk_iushr hx hb (okJ6_bitCount_0f7a4 (17, .iushr, 1) (List.mem_of_getElem? (i := 13) rfl)) ?_
  refine lv_ldcw (v := iI 858993459) hx hb hown (by rw [show iI 858993459 = (858993459 : Int32) from by decide +kernel]; exact hL1) (okJ6_bitCount_0f7a4 (18, .ldc_w 266, 3) (List.mem_of_getElem? (i := 14) rfl)) ?_
  refine sk_iand hx hb (okJ6_bitCount_0f7a4 (21, .iand, 1) (List.mem_of_getElem? (i := 15) rfl)) ?_
  refine sk_iadd hx hb (okJ6_bitCount_0f7a4 (22, .iadd, 1) (List.mem_of_getElem? (i := 16) rfl)) ?_
  obtain ⟨hr2, hM⟩ := hM
  refine sk_nm (fun v0_23 ev0_23 => ?_)
  have hM := hM v0_23 ev0_23
  have hr_v0_23 : rI v0_23 := by rw [ev0_23]; exact hr2
  refine lv_istore_n (lv' := [(0, .int (iI v0_23))]) hx hb (okJ6_bitCount_0f7a4 (23, .istore_n 0, 1) (List.mem_of_getElem? (i := 17) rfl)) rfl hl (by decide) rfl (fun ls hl => ?_)
  refine lv_iload_n hx hb (okJ6_bitCount_0f7a4 (24, .iload_n 0, 1) (List.mem_of_getElem? (i := 18) rfl)) rfl (lv_at hl 0 rfl) ?_
  refine lv_iload_n hx hb (okJ6_bitCount_0f7a4 (25, .iload_n 0, 1) (List.mem_of_getElem? (i := 19) rfl)) rfl (lv_at hl 0 rfl) ?_
  refine lv_iconst (v := iI 4) hx hb (okJ6_bitCount_0f7a4 (26, .iconst 4, 1) (List.mem_of_getElem? (i := 20) rfl)) rfl ?_
  refine sk_iushr hx hb (okJ6_bitCount_0f7a4 (27, .iushr, 1) (List.mem_of_getElem? (i := 21) rfl)) ?_
  refine sk_iadd hx hb (okJ6_bitCount_0f7a4 (28, .iadd, 1) (List.mem_of_getElem? (i := 22) rfl)) ?_
  refine lv_ldcw (v := iI 252645135) hx hb hown (by rw [show iI 252645135 = (252645135 : Int32) from by decide +kernel]; exact hL2) (okJ6_bitCount_0f7a4 (29, .ldc_w 267, 3) (List.mem_of_getElem? (i := 23) rfl)) ?_
  refine sk_iand hx hb (okJ6_bitCount_0f7a4 (32, .iand, 1) (List.mem_of_getElem? (i := 24) rfl)) ?_
  refine sk_nm (fun v0_33 ev0_33 => ?_)
  have hM := hM v0_33 ev0_33
  have hr_v0_33 : rI v0_33 := by rw [ev0_33]; exact (rI_of _)
  refine lv_istore_n (lv' := [(0, .int (iI v0_33))]) hx hb (okJ6_bitCount_0f7a4 (33, .istore_n 0, 1) (List.mem_of_getElem? (i := 25) rfl)) rfl hl (by decide) rfl (fun ls hl => ?_)
  refine lv_iload_n hx hb (okJ6_bitCount_0f7a4 (34, .iload_n 0, 1) (List.mem_of_getElem? (i := 26) rfl)) rfl (lv_at hl 0 rfl) ?_
  refine lv_iload_n hx hb (okJ6_bitCount_0f7a4 (35, .iload_n 0, 1) (List.mem_of_getElem? (i := 27) rfl)) rfl (lv_at hl 0 rfl) ?_
  refine lv_bipush (v := iI 8) hx hb (okJ6_bitCount_0f7a4 (36, .bipush 8, 2) (List.mem_of_getElem? (i := 28) rfl)) (by decide +kernel) ?_
  refine sk_iushr hx hb (okJ6_bitCount_0f7a4 (38, .iushr, 1) (List.mem_of_getElem? (i := 29) rfl)) ?_
  refine sk_iadd hx hb (okJ6_bitCount_0f7a4 (39, .iadd, 1) (List.mem_of_getElem? (i := 30) rfl)) ?_
  obtain ⟨hr3, hM⟩ := hM
  refine sk_nm (fun v0_40 ev0_40 => ?_)
  have hM := hM v0_40 ev0_40
  have hr_v0_40 : rI v0_40 := by rw [ev0_40]; exact hr3
  refine lv_istore_n (lv' := [(0, .int (iI v0_40))]) hx hb (okJ6_bitCount_0f7a4 (40, .istore_n 0, 1) (List.mem_of_getElem? (i := 31) rfl)) rfl hl (by decide) rfl (fun ls hl => ?_)
  refine lv_iload_n hx hb (okJ6_bitCount_0f7a4 (41, .iload_n 0, 1) (List.mem_of_getElem? (i := 32) rfl)) rfl (lv_at hl 0 rfl) ?_
  refine lv_iload_n hx hb (okJ6_bitCount_0f7a4 (42, .iload_n 0, 1) (List.mem_of_getElem? (i := 33) rfl)) rfl (lv_at hl 0 rfl) ?_
  refine lv_bipush (v := iI 16) hx hb (okJ6_bitCount_0f7a4 (43, .bipush 16, 2) (List.mem_of_getElem? (i := 34) rfl)) (by decide +kernel) ?_
  refine sk_iushr hx hb (okJ6_bitCount_0f7a4 (45, .iushr, 1) (List.mem_of_getElem? (i := 35) rfl)) ?_
  refine sk_iadd hx hb (okJ6_bitCount_0f7a4 (46, .iadd, 1) (List.mem_of_getElem? (i := 36) rfl)) ?_
  obtain ⟨hr4, hM⟩ := hM
  refine sk_nm (fun v0_47 ev0_47 => ?_)
  have hM := hM v0_47 ev0_47
  have hr_v0_47 : rI v0_47 := by rw [ev0_47]; exact hr4
  refine lv_istore_n (lv' := [(0, .int (iI v0_47))]) hx hb (okJ6_bitCount_0f7a4 (47, .istore_n 0, 1) (List.mem_of_getElem? (i := 37) rfl)) rfl hl (by decide) rfl (fun ls hl => ?_)
  refine lv_iload_n hx hb (okJ6_bitCount_0f7a4 (48, .iload_n 0, 1) (List.mem_of_getElem? (i := 38) rfl)) rfl (lv_at hl 0 rfl) ?_
  refine lv_bipush (v := iI 63) hx hb (okJ6_bitCount_0f7a4 (49, .bipush 63, 2) (List.mem_of_getElem? (i := 39) rfl)) (by decide +kernel) ?_
  refine sk_iand hx hb (okJ6_bitCount_0f7a4 (51, .iand, 1) (List.mem_of_getElem? (i := 40) rfl)) ?_
  exact sk_iret hx hb hr0 hlocks hK hw (rI_of _) hM (okJ6_bitCount_0f7a4 (52, .ireturn, 1) (List.mem_of_getElem? (i := 41) rfl))
def rmX6_needWith : Room := { frames := 1, cells := 0, slots := 0, locals := 53 }
set_option maxHeartbeats 4000000 in
set_option maxRecDepth 100000 in
theorem c_Planner_needWith (l : Launch) (G : sk_G) {p1 p2 : Int} (hr_p1 : rI p1) (hr_p2 : rI p2) {Q : Int → sk_S → Prop} {I : sk_S} (hM : M_Planner_needWith p1 p2 Q I) : Met l yX6_needWith wsX6_needWith rmX6_needWith (va_Pc [.ref (sk_ad G 37), .int (iI p1), .int (iI p2)] (sk_U G 198 sk_t I)) (sk_Qi G 198 sk_t Q) 0 0 (sk_A G) := by
  refine Met.ofW (cc := cX6_needWith) (maxL := 4) (ret := (some .int)) (by decide) rfl ?_
  intro p e s m args below meth c s₁ B hml hv
  obtain ⟨rfl, hU, hK⟩ := hv
  have hx := B.exec
  have hb := B.bytes
  have hr0 := B.returns
  have hts := atoms_spec (ws := wsX6_needWith) B.pre
  have hown : s.vm.findClass RX6 = some m.cls := findClass_of_methodNamed B.named
  have hlocks := B.notSynchronized
  have S : CallFix p m c cX6_needWith 4 s ([.ref (sk_ad G 37), .int (iI p1), .int (iI p2)].toArray) wsX6_needWith RX6 := ⟨hx, hb, hml, hown, hts⟩
  have hL0 := hts (.fieldLink RX6 14 "SkyLights$Planner" "ways" "LSkyLights$Row;") (by decide +kernel)
  have hL1 := hts (.fieldLink RX6 20 "SkyLights$Planner" "needs" "LSkyLights$Row;") (by decide +kernel)
  have hL2 := hts (.methodLink RX6 68 Lib.Math.max.name) (by decide +kernel)
  have hL3 := hts (.static Lib.Math.max.name) (by decide +kernel)
  have hL4 := hts (.initialized "java/lang/Math") (by decide +kernel)
  have hL5 := hts (.code Lib.Math.max.name Lib.Math.max.code 2 (some .int)) (by decide +kernel)
  have hI6 : ∀ w ∈ u_ws RX6 TX6 3, w ∈ wsX6_needWith := by decide +kernel
  have hw : sk_W G 198 sk_t I s s.heap [] := ⟨hU, va_S.rf⟩
  have hl := lv_entry ([.ref (sk_ad G 37), .int (iI p1), .int (iI p2)]) (n := 4) (Nat.le_of_ble_eq_true rfl)
  rw [lg_entry_eq]
  generalize (lg_sl ([.ref (sk_ad G 37), .int (iI p1), .int (iI p2)]) ++ List.replicate (4 - (lg_sl ([.ref (sk_ad G 37), .int (iI p1), .int (iI p2)])).length) Slot.unset).toArray = ls at hl ⊢
  have hl : lv_has ls 4 [(0, .ref (sk_ad G 37)), (1, .int (iI p1)), (2, .int (iI p2))] := hl
  suffices hgo : ∀ (H : Heap) (locs : List Loc), sk_W G 198 sk_t I s H locs → W p l e (headSpec wsX6_needWith rmX6_needWith).room s m ([.ref (sk_ad G 37), .int (iI p1), .int (iI p2)].toArray) below meth c H locs 0 0 (MQ below (sk_Qi G 198 sk_t Q) ([.ref (sk_ad G 37), .int (iI p1), .int (iI p2)].toArray) s 0 0 (sk_A G)) (F0 m 0 ls []) from hgo _ _ hw
  unfold M_Planner_needWith at hM
  intro H locs hw
  refine lv_iload_n hx hb (okX6_needWith (0, .iload_n 1, 1) (List.mem_of_getElem? (i := 0) rfl)) rfl (lv_at hl 1 rfl) ?_
  refine sk_ci (sk_runS (As := [.int (iI p1)]) (rest := []) S (c_bitCount l G hr_p1 hM) sk_blind gX6_needWith_J6_bitCount_0f7a4 rfl hdJ6_bitCount_0f7a4 ⟨⟨rfl, rfl⟩, Nat.le_of_ble_eq_true rfl, Nat.le_of_ble_eq_true rfl⟩ (sk_pre hK hw) rfl hl.1 rfl (Nat.le_of_ble_eq_true rfl) (okX6_needWith (1, .invokestatic 63, 3) (List.mem_of_getElem? (i := 1) rfl)) ⟨Nat.zero_le _, Nat.zero_le _⟩) hw (fun r_1 I_1 H locs hr_r_1 hM hw => ?_)
  refine lv_istore_n (lv' := [(3, .int (iI r_1)), (0, .ref (sk_ad G 37)), (1, .int (iI p1)), (2, .int (iI p2))]) hx hb (okX6_needWith (4, .istore_n 3, 1) (List.mem_of_getElem? (i := 2) rfl)) rfl hl (by decide) rfl (fun ls hl => ?_)
  refine lv_aload_n hx hb (okX6_needWith (5, .aload_n 0, 1) (List.mem_of_getElem? (i := 3) rfl)) rfl (lv_at hl 1 rfl) ?_
  refine sk_getr (b := 38) S hK hw kdn_37 (kd_in kdn_37) (C := RX6) (T := TX6) (N := 3) rfl hI6 0 ⟨by decide, rfl, by decide, rfl⟩ rfl (k' := 0) rfl rfl (by decide +kernel) hL0 (okX6_needWith (6, .getfield 14, 3) (List.mem_of_getElem? (i := 4) rfl)) ?_
  refine lv_iload_n hx hb (okX6_needWith (9, .iload_n 3, 1) (List.mem_of_getElem? (i := 5) rfl)) rfl (lv_at hl 0 rfl) ?_
  refine lv_bipush (v := iI 10) hx hb (okX6_needWith (10, .bipush 10, 2) (List.mem_of_getElem? (i := 6) rfl)) (by decide +kernel) ?_
  refine sk_imul hx hb (okX6_needWith (12, .imul, 1) (List.mem_of_getElem? (i := 7) rfl)) ?_
  refine lv_iload_n hx hb (okX6_needWith (13, .iload_n 2, 1) (List.mem_of_getElem? (i := 8) rfl)) rfl (lv_at hl 3 rfl) ?_
  refine sk_iadd hx hb (okX6_needWith (14, .iadd, 1) (List.mem_of_getElem? (i := 9) rfl)) ?_
  obtain ⟨hr1, hM⟩ := hM
  refine sk_ci (sk_runV (a := 38) (C := RX7) (As := [.int (iI ((r_1 * 10) + p2))]) (rest := []) S (c_Row_at l G kdn_38 hr1 hM) sk_blind gX6_needWith_X7_at rfl hdX7_at ⟨⟨rfl, rfl⟩, Nat.le_of_ble_eq_true rfl, Nat.le_of_ble_eq_true rfl⟩ (sk_recv hK hw kdn_38 (kd_in kdn_38) (by decide) rfl) (sk_pre hK hw) rfl hl.1 rfl (Nat.le_of_ble_eq_true rfl) (okX6_needWith (15, .invokevirtual 26, 3) (List.mem_of_getElem? (i := 10) rfl)) ⟨Nat.zero_le _, Nat.zero_le _⟩) hw (fun r_15 I_15 H locs hr_r_15 hM hw => ?_)
  refine lv_aload_n hx hb (okX6_needWith (18, .aload_n 0, 1) (List.mem_of_getElem? (i := 11) rfl)) rfl (lv_at hl 1 rfl) ?_
  refine sk_getr (b := 40) S hK hw kdn_37 (kd_in kdn_37) (C := RX6) (T := TX6) (N := 3) rfl hI6 1 ⟨by decide, rfl, by decide, rfl⟩ rfl (k' := 1) rfl rfl (by decide +kernel) hL1 (okX6_needWith (19, .getfield 20, 3) (List.mem_of_getElem? (i := 12) rfl)) ?_
  refine lv_iload_n hx hb (okX6_needWith (22, .iload_n 1, 1) (List.mem_of_getElem? (i := 13) rfl)) rfl (lv_at hl 2 rfl) ?_
  refine lv_iconst (v := iI 1) hx hb (okX6_needWith (23, .iconst 1, 1) (List.mem_of_getElem? (i := 14) rfl)) rfl ?_
  refine lv_iload_n hx hb (okX6_needWith (24, .iload_n 2, 1) (List.mem_of_getElem? (i := 15) rfl)) rfl (lv_at hl 3 rfl) ?_
  refine sk_ishl hx hb (okX6_needWith (25, .ishl, 1) (List.mem_of_getElem? (i := 16) rfl)) ?_
  refine sk_ior hx hb (okX6_needWith (26, .ior, 1) (List.mem_of_getElem? (i := 17) rfl)) ?_
  refine sk_ci (sk_runV (a := 40) (C := RX7) (As := [.int (iI (ior p1 (ishl 1 p2)))]) (rest := [.int (iI r_15)]) S (c_Row_at l G kdn_40 (rI_of _) hM) sk_blind gX6_needWith_X7_at rfl hdX7_at ⟨⟨rfl, rfl⟩, Nat.le_of_ble_eq_true rfl, Nat.le_of_ble_eq_true rfl⟩ (sk_recv hK hw kdn_40 (kd_in kdn_40) (by decide) rfl) (sk_pre hK hw) rfl hl.1 rfl (Nat.le_of_ble_eq_true rfl) (okX6_needWith (27, .invokevirtual 26, 3) (List.mem_of_getElem? (i := 18) rfl)) ⟨Nat.zero_le _, Nat.zero_le _⟩) hw (fun r_27 I_27 H locs hr_r_27 hM hw => ?_)
  refine sk_max hx hb (hml.trans hl.1.symm) hown hL2 hL3 hL4 hL5 ⟨Nat.le_of_ble_eq_true rfl, Nat.le_of_ble_eq_true rfl, Nat.zero_le _, Nat.zero_le _⟩ hr_r_15 hr_r_27 (okX6_needWith (30, .invokestatic 68, 3) (List.mem_of_getElem? (i := 19) rfl)) ?_
  exact sk_iret hx hb hr0 hlocks hK hw (rI_imax hr_r_15 hr_r_27) hM (okX6_needWith (33, .ireturn, 1) (List.mem_of_getElem? (i := 20) rfl))
def rmX6_leastGoal : Room := { frames := 2, cells := 0, slots := 0, locals := 108 }
set_option maxHeartbeats 4000000 in
set_option maxRecDepth 100000 in
theorem c_Planner_leastGoal (l : Launch) (G : sk_G) {p1 p2 : Int} (hr_p1 : rI p1) (hr_p2 : rI p2) {Q : Int → sk_S → Prop} {I : sk_S} (hM : M_Planner_leastGoal p1 p2 Q I) : Met l yX6_leastGoal wsX6_leastGoal rmX6_leastGoal (va_Pc [.ref (sk_ad G 37), .int (iI p1), .int (iI p2)] (sk_U G 198 sk_t I)) (sk_Qi G 198 sk_t Q) 0 0 (sk_A G) := by
  refine Met.ofW (cc := cX6_leastGoal) (maxL := 4) (ret := (some .int)) (by decide) rfl ?_
  intro p e s m args below meth c s₁ B hml hv
  obtain ⟨rfl, hU, hK⟩ := hv
  have hx := B.exec
  have hb := B.bytes
  have hr0 := B.returns
  have hts := atoms_spec (ws := wsX6_leastGoal) B.pre
  have hown : s.vm.findClass RX6 = some m.cls := findClass_of_methodNamed B.named
  have hlocks := B.notSynchronized
  have S : CallFix p m c cX6_leastGoal 4 s ([.ref (sk_ad G 37), .int (iI p1), .int (iI p2)].toArray) wsX6_leastGoal RX6 := ⟨hx, hb, hml, hown, hts⟩
  have hL0 := hts (.fieldLink RX6 20 "SkyLights$Planner" "needs" "LSkyLights$Row;") (by decide +kernel)
  have hI6 : ∀ w ∈ u_ws RX6 TX6 3, w ∈ wsX6_leastGoal := by decide +kernel
  have hw : sk_W G 198 sk_t I s s.heap [] := ⟨hU, va_S.rf⟩
  have hl := lv_entry ([.ref (sk_ad G 37), .int (iI p1), .int (iI p2)]) (n := 4) (Nat.le_of_ble_eq_true rfl)
  rw [lg_entry_eq]
  generalize (lg_sl ([.ref (sk_ad G 37), .int (iI p1), .int (iI p2)]) ++ List.replicate (4 - (lg_sl ([.ref (sk_ad G 37), .int (iI p1), .int (iI p2)])).length) Slot.unset).toArray = ls at hl ⊢
  have hl : lv_has ls 4 [(0, .ref (sk_ad G 37)), (1, .int (iI p1)), (2, .int (iI p2))] := hl
  suffices hgo : ∀ (H : Heap) (locs : List Loc), sk_W G 198 sk_t I s H locs → W p l e (headSpec wsX6_leastGoal rmX6_leastGoal).room s m ([.ref (sk_ad G 37), .int (iI p1), .int (iI p2)].toArray) below meth c H locs 0 0 (MQ below (sk_Qi G 198 sk_t Q) ([.ref (sk_ad G 37), .int (iI p1), .int (iI p2)].toArray) s 0 0 (sk_A G)) (F0 m 0 ls []) from hgo _ _ hw
  have hJ_2 : ∀ (v1 v2 v3 : Int) (I : sk_S), rI v1 → rI v2 → rI v3 → L_Planner_leastGoal_2 v1 v2 Q v3 I → ∀ (H : Heap) (locs : List Loc) (ls : Array Slot), sk_W G 198 sk_t I s H locs → lv_has ls 4 [(0, .ref (sk_ad G 37)), (1, .int (iI v1)), (2, .int (iI v2)), (3, .int (iI v3))] → W p l e (headSpec wsX6_leastGoal rmX6_leastGoal).room s m ([.ref (sk_ad G 37), .int (iI p1), .int (iI p2)].toArray) below meth c H locs 0 0 (MQ below (sk_Qi G 198 sk_t Q) ([.ref (sk_ad G 37), .int (iI p1), .int (iI p2)].toArray) s 0 0 (sk_A G)) (F0 m 2 ls []) := by
    intro v1 v2 v3 I hr_v1 hr_v2 hr_v3 hM H locs ls hw hl
    unfold L_Planner_leastGoal_2 at hM
    obtain ⟨X_2, hX_2⟩ : ∃ X : Int → sk_S → Prop, ∀ (v3 : Int) (I : sk_S), X v3 I ↔ (rI v3 → ∀ (H : Heap) (locs : List Loc) (ls : Array Slot), sk_W G 198 sk_t I s H locs → lv_has ls 4 [(0, .ref (sk_ad G 37)), (1, .int (iI v1)), (2, .int (iI v2)), (3, .int (iI v3))] → W p l e (headSpec wsX6_leastGoal rmX6_leastGoal).room s m ([.ref (sk_ad G 37), .int (iI p1), .int (iI p2)].toArray) below meth c H locs 0 0 (MQ below (sk_Qi G 198 sk_t Q) ([.ref (sk_ad G 37), .int (iI p1), .int (iI p2)].toArray) s 0 0 (sk_A G)) (F0 m 2 ls [])) := ⟨_, fun _ _ => Iff.rfl⟩
    have hJ_34 : ∀ (v3 : Int) (I : sk_S), rI v3 → J_Planner_leastGoal_34 v1 v2 v3 Q X_2 I → ∀ (H : Heap) (locs : List Loc) (ls : Array Slot), sk_W G 198 sk_t I s H locs → lv_has ls 4 [(0, .ref (sk_ad G 37)), (1, .int (iI v1)), (2, .int (iI v2)), (3, .int (iI v3))] → W p l e (headSpec wsX6_leastGoal rmX6_leastGoal).room s m ([.ref (sk_ad G 37), .int (iI p1), .int (iI p2)].toArray) below meth c H locs 0 0 (MQ below (sk_Qi G 198 sk_t Q) ([.ref (sk_ad G 37), .int (iI p1), .int (iI p2)].toArray) s 0 0 (sk_A G)) (F0 m 34 ls []) := by
      intro v3 I hr_v3 hM H locs ls hw hl
      unfold J_Planner_leastGoal_34 at hM
      obtain ⟨hr1, hM⟩ := hM
      obtain ⟨v3_34, ev3_34⟩ : ∃ y : Int, y = v3 + 1 := ⟨_, rfl⟩
      have hM := hM v3_34 ev3_34
      have hr_v3_34 : rI v3_34 := by rw [ev3_34]; exact hr1
      refine lv_iinc (v := iI v3_34) (lv' := [(3, .int (iI v3_34)), (0, .ref (sk_ad G 37)), (1, .int (iI v1)), (2, .int (iI v2))]) hx hb (okX6_leastGoal (34, .iinc 3 1, 3) (List.mem_of_getElem? (i := 22) rfl)) hl (k := 3) rfl (by rw [ev3_34]; exact iI_add _ _) (by decide) rfl (fun ls hl => ?_)
      refine lv_goto (tgt := 2) hx hb (okX6_leastGoal (37, .goto (-35), 3) (List.mem_of_getElem? (i := 23) rfl)) (by decide) ?_
      exact (hX_2 v3_34 I).1 hM hr_v3_34 H locs ls hw (lv_sub hl [1, 2, 3, 0] rfl)
    refine (hX_2 v3 I).1 (hM X_2 (fun v3 I hM => (hX_2 v3 I).2 (fun hr_v3 H locs ls hw hl => ?_))) hr_v3 H locs ls hw hl
    refine lv_iload_n hx hb (okX6_leastGoal (2, .iload_n 3, 1) (List.mem_of_getElem? (i := 2) rfl)) rfl (lv_at hl 3 rfl) ?_
    refine lv_iload_n hx hb (okX6_leastGoal (3, .iload_n 1, 1) (List.mem_of_getElem? (i := 3) rfl)) rfl (lv_at hl 1 rfl) ?_
    refine sk_icmp_ge (tgt := 40) hx hb hr_v3 hr_v1 (okX6_leastGoal (4, .if_icmp .ge 36, 3) (List.mem_of_getElem? (i := 4) rfl)) (by decide) (fun c4 => ?_) (fun c4 => ?_)
    · have hM := hM.1 c4
      refine lv_iconst (v := iI 0) hx hb (okX6_leastGoal (40, .iconst 0, 1) (List.mem_of_getElem? (i := 24) rfl)) rfl ?_
      exact sk_iret hx hb hr0 hlocks hK hw (by decide) hM (okX6_leastGoal (41, .ireturn, 1) (List.mem_of_getElem? (i := 25) rfl))
    · have hM := hM.2 c4
      refine lv_iload_n hx hb (okX6_leastGoal (7, .iload_n 2, 1) (List.mem_of_getElem? (i := 5) rfl)) rfl (lv_at hl 2 rfl) ?_
      refine lv_iload_n hx hb (okX6_leastGoal (8, .iload_n 3, 1) (List.mem_of_getElem? (i := 6) rfl)) rfl (lv_at hl 3 rfl) ?_
      refine sk_ishr hx hb (okX6_leastGoal (9, .ishr, 1) (List.mem_of_getElem? (i := 7) rfl)) ?_
      refine lv_iconst (v := iI 1) hx hb (okX6_leastGoal (10, .iconst 1, 1) (List.mem_of_getElem? (i := 8) rfl)) rfl ?_
      refine sk_iand hx hb (okX6_leastGoal (11, .iand, 1) (List.mem_of_getElem? (i := 9) rfl)) ?_
      refine sk_if_ne (tgt := 34) hx hb (rI_of _) (okX6_leastGoal (12, .ifCond .ne 22, 3) (List.mem_of_getElem? (i := 10) rfl)) (by decide) (fun c12 => ?_) (fun c12 => ?_)
      · have hM := hM.1 c12
        exact hJ_34 v3 I hr_v3 hM H locs ls hw (lv_sub hl [0, 1, 2, 3] rfl)
      · have hM := hM.2 c12
        refine lv_aload_n hx hb (okX6_leastGoal (15, .aload_n 0, 1) (List.mem_of_getElem? (i := 11) rfl)) rfl (lv_at hl 0 rfl) ?_
        refine lv_iload_n hx hb (okX6_leastGoal (16, .iload_n 2, 1) (List.mem_of_getElem? (i := 12) rfl)) rfl (lv_at hl 2 rfl) ?_
        refine lv_iload_n hx hb (okX6_leastGoal (17, .iload_n 3, 1) (List.mem_of_getElem? (i := 13) rfl)) rfl (lv_at hl 3 rfl) ?_
        refine sk_ci (sk_runV (a := 37) (C := RX6) (As := [.int (iI v2), .int (iI v3)]) (rest := []) S (c_Planner_needWith l G hr_v2 hr_v3 hM) sk_blind gX6_leastGoal_X6_needWith rfl hdX6_needWith ⟨⟨rfl, rfl⟩, Nat.le_of_ble_eq_true rfl, Nat.le_of_ble_eq_true rfl⟩ (sk_recv hK hw kdn_37 (kd_in kdn_37) (by decide) rfl) (sk_pre hK hw) rfl hl.1 rfl (Nat.le_of_ble_eq_true rfl) (okX6_leastGoal (18, .invokevirtual 57, 3) (List.mem_of_getElem? (i := 14) rfl)) ⟨Nat.zero_le _, Nat.zero_le _⟩) hw (fun r_18 I_18 H locs hr_r_18 hM hw => ?_)
        refine lv_aload_n hx hb (okX6_leastGoal (21, .aload_n 0, 1) (List.mem_of_getElem? (i := 15) rfl)) rfl (lv_at hl 0 rfl) ?_
        refine sk_getr (b := 40) S hK hw kdn_37 (kd_in kdn_37) (C := RX6) (T := TX6) (N := 3) rfl hI6 1 ⟨by decide, rfl, by decide, rfl⟩ rfl (k' := 1) rfl rfl (by decide +kernel) hL0 (okX6_leastGoal (22, .getfield 20, 3) (List.mem_of_getElem? (i := 16) rfl)) ?_
        refine lv_iconst (v := iI 0) hx hb (okX6_leastGoal (25, .iconst 0, 1) (List.mem_of_getElem? (i := 17) rfl)) rfl ?_
        refine sk_ci (sk_runV (a := 40) (C := RX7) (As := [.int (iI 0)]) (rest := [.int (iI r_18)]) S (c_Row_at l G kdn_40 (by decide) hM) sk_blind gX6_leastGoal_X7_at rfl hdX7_at ⟨⟨rfl, rfl⟩, Nat.le_of_ble_eq_true rfl, Nat.le_of_ble_eq_true rfl⟩ (sk_recv hK hw kdn_40 (kd_in kdn_40) (by decide) rfl) (sk_pre hK hw) rfl hl.1 rfl (Nat.le_of_ble_eq_true rfl) (okX6_leastGoal (26, .invokevirtual 26, 3) (List.mem_of_getElem? (i := 18) rfl)) ⟨Nat.zero_le _, Nat.zero_le _⟩) hw (fun r_26 I_26 H locs hr_r_26 hM hw => ?_)
        refine sk_icmp_gt (tgt := 34) hx hb hr_r_18 hr_r_26 (okX6_leastGoal (29, .if_icmp .gt 5, 3) (List.mem_of_getElem? (i := 19) rfl)) (by decide) (fun c29 => ?_) (fun c29 => ?_)
        · have hM := hM.1 c29
          exact hJ_34 v3 I_26 hr_v3 hM H locs ls hw (lv_sub hl [0, 1, 2, 3] rfl)
        · have hM := hM.2 c29
          refine lv_iload_n hx hb (okX6_leastGoal (32, .iload_n 3, 1) (List.mem_of_getElem? (i := 20) rfl)) rfl (lv_at hl 3 rfl) ?_
          exact sk_iret hx hb hr0 hlocks hK hw hr_v3 hM (okX6_leastGoal (33, .ireturn, 1) (List.mem_of_getElem? (i := 21) rfl))
  unfold M_Planner_leastGoal at hM
  intro H locs hw
  refine lv_iconst (v := iI 0) hx hb (okX6_leastGoal (0, .iconst 0, 1) (List.mem_of_getElem? (i := 0) rfl)) rfl ?_
  refine lv_istore_n (lv' := [(3, .int (iI 0)), (0, .ref (sk_ad G 37)), (1, .int (iI p1)), (2, .int (iI p2))]) hx hb (okX6_leastGoal (1, .istore_n 3, 1) (List.mem_of_getElem? (i := 1) rfl)) rfl hl (by decide) rfl (fun ls hl => ?_)
  exact hJ_2 p1 p2 0 I hr_p1 hr_p2 (by decide) hM H locs ls hw (lv_sub hl [1, 2, 3, 0] rfl)
def rmX6_choose : Room := { frames := 3, cells := 0, slots := 0, locals := 163 }
set_option maxHeartbeats 4000000 in
set_option maxRecDepth 100000 in
theorem c_Planner_choose (l : Launch) (G : sk_G) {p1 : Int} (hr_p1 : rI p1) {Q : sk_S → Prop} {I : sk_S} (hM : M_Planner_choose p1 Q I) : Met l yX6_choose wsX6_choose rmX6_choose (va_Pc [.ref (sk_ad G 37), .int (iI p1)] (sk_U G 198 sk_t I)) (sk_Qv G 198 sk_t Q) 0 0 (sk_A G) := by
  refine Met.ofW (cc := cX6_choose) (maxL := 5) (ret := none) (by decide) rfl ?_
  intro p e s m args below meth c s₁ B hml hv
  obtain ⟨rfl, hU, hK⟩ := hv
  have hx := B.exec
  have hb := B.bytes
  have hr0 := B.returns
  have hts := atoms_spec (ws := wsX6_choose) B.pre
  have hown : s.vm.findClass RX6 = some m.cls := findClass_of_methodNamed B.named
  have hlocks := B.notSynchronized
  have S : CallFix p m c cX6_choose 5 s ([.ref (sk_ad G 37), .int (iI p1)].toArray) wsX6_choose RX6 := ⟨hx, hb, hml, hown, hts⟩
  have hL0 := hts (.fieldLink RX6 23 "SkyLights$Planner" "goals" "LSkyLights$Row;") (by decide +kernel)
  have hI6 : ∀ w ∈ u_ws RX6 TX6 3, w ∈ wsX6_choose := by decide +kernel
  have hw : sk_W G 198 sk_t I s s.heap [] := ⟨hU, va_S.rf⟩
  have hl := lv_entry ([.ref (sk_ad G 37), .int (iI p1)]) (n := 5) (Nat.le_of_ble_eq_true rfl)
  rw [lg_entry_eq]
  generalize (lg_sl ([.ref (sk_ad G 37), .int (iI p1)]) ++ List.replicate (5 - (lg_sl ([.ref (sk_ad G 37), .int (iI p1)])).length) Slot.unset).toArray = ls at hl ⊢
  have hl : lv_has ls 5 [(0, .ref (sk_ad G 37)), (1, .int (iI p1))] := hl
  suffices hgo : ∀ (H : Heap) (locs : List Loc), sk_W G 198 sk_t I s H locs → W p l e (headSpec wsX6_choose rmX6_choose).room s m ([.ref (sk_ad G 37), .int (iI p1)].toArray) below meth c H locs 0 0 (MQ below (sk_Qv G 198 sk_t Q) ([.ref (sk_ad G 37), .int (iI p1)].toArray) s 0 0 (sk_A G)) (F0 m 0 ls []) from hgo _ _ hw
  have hJ_4 : ∀ (v1 v2 v3 : Int) (I : sk_S), rI v1 → rI v2 → rI v3 → L_Planner_choose_4 v1 Q v2 v3 I → ∀ (H : Heap) (locs : List Loc) (ls : Array Slot), sk_W G 198 sk_t I s H locs → lv_has ls 5 [(0, .ref (sk_ad G 37)), (1, .int (iI v1)), (2, .int (iI v2)), (3, .int (iI v3))] → W p l e (headSpec wsX6_choose rmX6_choose).room s m ([.ref (sk_ad G 37), .int (iI p1)].toArray) below meth c H locs 0 0 (MQ below (sk_Qv G 198 sk_t Q) ([.ref (sk_ad G 37), .int (iI p1)].toArray) s 0 0 (sk_A G)) (F0 m 4 ls []) := by
    intro v1 v2 v3 I hr_v1 hr_v2 hr_v3 hM H locs ls hw hl
    unfold L_Planner_choose_4 at hM
    obtain ⟨X_4, hX_4⟩ : ∃ X : Int → Int → sk_S → Prop, ∀ (v2 v3 : Int) (I : sk_S), X v2 v3 I ↔ (rI v2 → rI v3 → ∀ (H : Heap) (locs : List Loc) (ls : Array Slot), sk_W G 198 sk_t I s H locs → lv_has ls 5 [(0, .ref (sk_ad G 37)), (1, .int (iI v1)), (2, .int (iI v2)), (3, .int (iI v3))] → W p l e (headSpec wsX6_choose rmX6_choose).room s m ([.ref (sk_ad G 37), .int (iI p1)].toArray) below meth c H locs 0 0 (MQ below (sk_Qv G 198 sk_t Q) ([.ref (sk_ad G 37), .int (iI p1)].toArray) s 0 0 (sk_A G)) (F0 m 4 ls [])) := ⟨_, fun _ _ _ => Iff.rfl⟩
    refine (hX_4 v2 v3 I).1 (hM X_4 (fun v2 v3 I hM => (hX_4 v2 v3 I).2 (fun hr_v2 hr_v3 H locs ls hw hl => ?_))) hr_v2 hr_v3 H locs ls hw hl
    refine lv_iload_n hx hb (okX6_choose (4, .iload_n 3, 1) (List.mem_of_getElem? (i := 4) rfl)) rfl (lv_at hl 3 rfl) ?_
    refine lv_iload_n hx hb (okX6_choose (5, .iload_n 1, 1) (List.mem_of_getElem? (i := 5) rfl)) rfl (lv_at hl 1 rfl) ?_
    refine sk_icmp_ge (tgt := 40) hx hb hr_v3 hr_v1 (okX6_choose (6, .if_icmp .ge 34, 3) (List.mem_of_getElem? (i := 6) rfl)) (by decide) (fun c6 => ?_) (fun c6 => ?_)
    · have hM := hM.1 c6
      exact sk_vret hx hb hr0 hlocks hK hw hM (okX6_choose (40, .return_, 1) (List.mem_of_getElem? (i := 25) rfl))
    · have hM := hM.2 c6
      refine lv_aload_n hx hb (okX6_choose (9, .aload_n 0, 1) (List.mem_of_getElem? (i := 7) rfl)) rfl (lv_at hl 0 rfl) ?_
      refine lv_iload_n hx hb (okX6_choose (10, .iload_n 1, 1) (List.mem_of_getElem? (i := 8) rfl)) rfl (lv_at hl 1 rfl) ?_
      refine lv_iload_n hx hb (okX6_choose (11, .iload_n 2, 1) (List.mem_of_getElem? (i := 9) rfl)) rfl (lv_at hl 2 rfl) ?_
      refine sk_ci (sk_runV (a := 37) (C := RX6) (As := [.int (iI v1), .int (iI v2)]) (rest := []) S (c_Planner_leastGoal l G hr_v1 hr_v2 hM) sk_blind gX6_choose_X6_leastGoal rfl hdX6_leastGoal ⟨⟨rfl, rfl⟩, Nat.le_of_ble_eq_true rfl, Nat.le_of_ble_eq_true rfl⟩ (sk_recv hK hw kdn_37 (kd_in kdn_37) (by decide) rfl) (sk_pre hK hw) rfl hl.1 rfl (Nat.le_of_ble_eq_true rfl) (okX6_choose (12, .invokevirtual 60, 3) (List.mem_of_getElem? (i := 10) rfl)) ⟨Nat.zero_le _, Nat.zero_le _⟩) hw (fun r_12 I_12 H locs hr_r_12 hM hw => ?_)
      refine lv_istore (lv' := [(4, .int (iI r_12)), (0, .ref (sk_ad G 37)), (1, .int (iI v1)), (2, .int (iI v2)), (3, .int (iI v3))]) hx hb (okX6_choose (15, .istore 4, 2) (List.mem_of_getElem? (i := 11) rfl)) hl (by decide) rfl (fun ls hl => ?_)
      refine lv_aload_n hx hb (okX6_choose (17, .aload_n 0, 1) (List.mem_of_getElem? (i := 12) rfl)) rfl (lv_at hl 1 rfl) ?_
      refine sk_getr (b := 42) S hK hw kdn_37 (kd_in kdn_37) (C := RX6) (T := TX6) (N := 3) rfl hI6 2 ⟨by decide, rfl, by decide, rfl⟩ rfl (k' := 2) rfl rfl (by decide +kernel) hL0 (okX6_choose (18, .getfield 23, 3) (List.mem_of_getElem? (i := 13) rfl)) ?_
      refine lv_iload_n hx hb (okX6_choose (21, .iload_n 3, 1) (List.mem_of_getElem? (i := 14) rfl)) rfl (lv_at hl 4 rfl) ?_
      refine lv_iload hx hb (okX6_choose (22, .iload 4, 2) (List.mem_of_getElem? (i := 15) rfl)) (lv_at hl 0 rfl) ?_
      refine sk_cv (sk_runV (a := 42) (C := RX7) (As := [.int (iI v3), .int (iI r_12)]) (rest := []) S (c_Row_put l G kdn_42 hr_v3 hr_r_12 hM) sk_blind gX6_choose_X7_put rfl hdX7_put ⟨⟨rfl, rfl⟩, Nat.le_of_ble_eq_true rfl, Nat.le_of_ble_eq_true rfl⟩ (sk_recv hK hw kdn_42 (kd_in kdn_42) (by decide) rfl) (sk_pre hK hw) rfl hl.1 rfl (Nat.le_of_ble_eq_true rfl) (okX6_choose (24, .invokevirtual 46, 3) (List.mem_of_getElem? (i := 16) rfl)) ⟨Nat.zero_le _, Nat.zero_le _⟩) hw (fun I_24 H locs hM hw => ?_)
      refine lv_iload_n hx hb (okX6_choose (27, .iload_n 2, 1) (List.mem_of_getElem? (i := 17) rfl)) rfl (lv_at hl 3 rfl) ?_
      refine lv_iconst (v := iI 1) hx hb (okX6_choose (28, .iconst 1, 1) (List.mem_of_getElem? (i := 18) rfl)) rfl ?_
      refine lv_iload hx hb (okX6_choose (29, .iload 4, 2) (List.mem_of_getElem? (i := 19) rfl)) (lv_at hl 0 rfl) ?_
      refine sk_ishl hx hb (okX6_choose (31, .ishl, 1) (List.mem_of_getElem? (i := 20) rfl)) ?_
      refine sk_ior hx hb (okX6_choose (32, .ior, 1) (List.mem_of_getElem? (i := 21) rfl)) ?_
      refine sk_nm (fun v2_33 ev2_33 => ?_)
      have hM := hM v2_33 ev2_33
      have hr_v2_33 : rI v2_33 := by rw [ev2_33]; exact (rI_of _)
      refine lv_istore_n (lv' := [(2, .int (iI v2_33)), (4, .int (iI r_12)), (0, .ref (sk_ad G 37)), (1, .int (iI v1)), (3, .int (iI v3))]) hx hb (okX6_choose (33, .istore_n 2, 1) (List.mem_of_getElem? (i := 22) rfl)) rfl hl (by decide) rfl (fun ls hl => ?_)
      obtain ⟨hr1, hM⟩ := hM
      obtain ⟨v3_34, ev3_34⟩ : ∃ y : Int, y = v3 + 1 := ⟨_, rfl⟩
      have hM := hM v3_34 ev3_34
      have hr_v3_34 : rI v3_34 := by rw [ev3_34]; exact hr1
      refine lv_iinc (v := iI v3_34) (lv' := [(3, .int (iI v3_34)), (2, .int (iI v2_33)), (4, .int (iI r_12)), (0, .ref (sk_ad G 37)), (1, .int (iI v1))]) hx hb (okX6_choose (34, .iinc 3 1, 3) (List.mem_of_getElem? (i := 23) rfl)) hl (k := 4) rfl (by rw [ev3_34]; exact iI_add _ _) (by decide) rfl (fun ls hl => ?_)
      refine lv_goto (tgt := 4) hx hb (okX6_choose (37, .goto (-33), 3) (List.mem_of_getElem? (i := 24) rfl)) (by decide) ?_
      exact (hX_4 v2_33 v3_34 I_24).1 hM hr_v2_33 hr_v3_34 H locs ls hw (lv_sub hl [3, 4, 1, 0] rfl)
  unfold M_Planner_choose at hM
  intro H locs hw
  refine lv_iconst (v := iI 0) hx hb (okX6_choose (0, .iconst 0, 1) (List.mem_of_getElem? (i := 0) rfl)) rfl ?_
  refine lv_istore_n (lv' := [(2, .int (iI 0)), (0, .ref (sk_ad G 37)), (1, .int (iI p1))]) hx hb (okX6_choose (1, .istore_n 2, 1) (List.mem_of_getElem? (i := 1) rfl)) rfl hl (by decide) rfl (fun ls hl => ?_)
  refine lv_iconst (v := iI 0) hx hb (okX6_choose (2, .iconst 0, 1) (List.mem_of_getElem? (i := 2) rfl)) rfl ?_
  refine lv_istore_n (lv' := [(3, .int (iI 0)), (2, .int (iI 0)), (0, .ref (sk_ad G 37)), (1, .int (iI p1))]) hx hb (okX6_choose (3, .istore_n 3, 1) (List.mem_of_getElem? (i := 3) rfl)) rfl hl (by decide) rfl (fun ls hl => ?_)
  exact hJ_4 p1 0 0 I hr_p1 (by decide) (by decide) hM H locs ls hw (lv_sub hl [2, 3, 1, 0] rfl)
def rmX6_weigh : Room := { frames := 2, cells := 0, slots := 0, locals := 108 }
set_option maxHeartbeats 4000000 in
set_option maxRecDepth 100000 in
theorem c_Planner_weigh (l : Launch) (G : sk_G) {p1 : Int} (hr_p1 : rI p1) {Q : sk_S → Prop} {I : sk_S} (hM : M_Planner_weigh p1 Q I) : Met l yX6_weigh wsX6_weigh rmX6_weigh (va_Pc [.ref (sk_ad G 37), .int (iI p1)] (sk_U G 198 sk_t I)) (sk_Qv G 198 sk_t Q) 0 0 (sk_A G) := by
  refine Met.ofW (cc := cX6_weigh) (maxL := 6) (ret := none) (by decide) rfl ?_
  intro p e s m args below meth c s₁ B hml hv
  obtain ⟨rfl, hU, hK⟩ := hv
  have hx := B.exec
  have hb := B.bytes
  have hr0 := B.returns
  have hts := atoms_spec (ws := wsX6_weigh) B.pre
  have hown : s.vm.findClass RX6 = some m.cls := findClass_of_methodNamed B.named
  have hlocks := B.notSynchronized
  have S : CallFix p m c cX6_weigh 6 s ([.ref (sk_ad G 37), .int (iI p1)].toArray) wsX6_weigh RX6 := ⟨hx, hb, hml, hown, hts⟩
  have hL0 := hts (.fieldLink RX6 20 "SkyLights$Planner" "needs" "LSkyLights$Row;") (by decide +kernel)
  have hL1 := hts (.constant RX6 56 (1000000)) (by decide +kernel)
  have hL2 := hts (.methodLink RX6 36 Lib.Math.min.name) (by decide +kernel)
  have hL3 := hts (.static Lib.Math.min.name) (by decide +kernel)
  have hL4 := hts (.initialized "java/lang/Math") (by decide +kernel)
  have hL5 := hts (.code Lib.Math.min.name Lib.Math.min.code 2 (some .int)) (by decide +kernel)
  have hI6 : ∀ w ∈ u_ws RX6 TX6 3, w ∈ wsX6_weigh := by decide +kernel
  have hw : sk_W G 198 sk_t I s s.heap [] := ⟨hU, va_S.rf⟩
  have hl := lv_entry ([.ref (sk_ad G 37), .int (iI p1)]) (n := 6) (Nat.le_of_ble_eq_true rfl)
  rw [lg_entry_eq]
  generalize (lg_sl ([.ref (sk_ad G 37), .int (iI p1)]) ++ List.replicate (6 - (lg_sl ([.ref (sk_ad G 37), .int (iI p1)])).length) Slot.unset).toArray = ls at hl ⊢
  have hl : lv_has ls 6 [(0, .ref (sk_ad G 37)), (1, .int (iI p1))] := hl
  suffices hgo : ∀ (H : Heap) (locs : List Loc), sk_W G 198 sk_t I s H locs → W p l e (headSpec wsX6_weigh rmX6_weigh).room s m ([.ref (sk_ad G 37), .int (iI p1)].toArray) below meth c H locs 0 0 (MQ below (sk_Qv G 198 sk_t Q) ([.ref (sk_ad G 37), .int (iI p1)].toArray) s 0 0 (sk_A G)) (F0 m 0 ls []) from hgo _ _ hw
  have hJ_19 : ∀ (v1 v3 : Int) (I : sk_S), rI v1 → rI v3 → L_Planner_weigh_19 v1 Q v3 I → ∀ (H : Heap) (locs : List Loc) (ls : Array Slot), sk_W G 198 sk_t I s H locs → lv_has ls 6 [(0, .ref (sk_ad G 37)), (1, .int (iI v1)), (3, .int (iI v3))] → W p l e (headSpec wsX6_weigh rmX6_weigh).room s m ([.ref (sk_ad G 37), .int (iI p1)].toArray) below meth c H locs 0 0 (MQ below (sk_Qv G 198 sk_t Q) ([.ref (sk_ad G 37), .int (iI p1)].toArray) s 0 0 (sk_A G)) (F0 m 19 ls []) := by
    intro v1 v3 I hr_v1 hr_v3 hM H locs ls hw hl
    unfold L_Planner_weigh_19 at hM
    obtain ⟨X_19, hX_19⟩ : ∃ X : Int → sk_S → Prop, ∀ (v3 : Int) (I : sk_S), X v3 I ↔ (rI v3 → ∀ (H : Heap) (locs : List Loc) (ls : Array Slot), sk_W G 198 sk_t I s H locs → lv_has ls 6 [(0, .ref (sk_ad G 37)), (1, .int (iI v1)), (3, .int (iI v3))] → W p l e (headSpec wsX6_weigh rmX6_weigh).room s m ([.ref (sk_ad G 37), .int (iI p1)].toArray) below meth c H locs 0 0 (MQ below (sk_Qv G 198 sk_t Q) ([.ref (sk_ad G 37), .int (iI p1)].toArray) s 0 0 (sk_A G)) (F0 m 19 ls [])) := ⟨_, fun _ _ => Iff.rfl⟩
    have hJ_65 : ∀ (v3 v4 : Int) (I : sk_S), rI v3 → rI v4 → J_Planner_weigh_65 v1 v3 v4 Q X_19 I → ∀ (H : Heap) (locs : List Loc) (ls : Array Slot), sk_W G 198 sk_t I s H locs → lv_has ls 6 [(0, .ref (sk_ad G 37)), (1, .int (iI v1)), (3, .int (iI v3)), (4, .int (iI v4))] → W p l e (headSpec wsX6_weigh rmX6_weigh).room s m ([.ref (sk_ad G 37), .int (iI p1)].toArray) below meth c H locs 0 0 (MQ below (sk_Qv G 198 sk_t Q) ([.ref (sk_ad G 37), .int (iI p1)].toArray) s 0 0 (sk_A G)) (F0 m 65 ls []) := by
      intro v3 v4 I hr_v3 hr_v4 hM H locs ls hw hl
      unfold J_Planner_weigh_65 at hM
      refine lv_aload_n hx hb (okX6_weigh (65, .aload_n 0, 1) (List.mem_of_getElem? (i := 39) rfl)) rfl (lv_at hl 0 rfl) ?_
      refine sk_getr (b := 40) S hK hw kdn_37 (kd_in kdn_37) (C := RX6) (T := TX6) (N := 3) rfl hI6 1 ⟨by decide, rfl, by decide, rfl⟩ rfl (k' := 1) rfl rfl (by decide +kernel) hL0 (okX6_weigh (66, .getfield 20, 3) (List.mem_of_getElem? (i := 40) rfl)) ?_
      refine lv_iload_n hx hb (okX6_weigh (69, .iload_n 3, 1) (List.mem_of_getElem? (i := 41) rfl)) rfl (lv_at hl 2 rfl) ?_
      refine lv_iload hx hb (okX6_weigh (70, .iload 4, 2) (List.mem_of_getElem? (i := 42) rfl)) (lv_at hl 3 rfl) ?_
      refine sk_cv (sk_runV (a := 40) (C := RX7) (As := [.int (iI v3), .int (iI v4)]) (rest := []) S (c_Row_put l G kdn_40 hr_v3 hr_v4 hM) sk_blind gX6_weigh_X7_put rfl hdX7_put ⟨⟨rfl, rfl⟩, Nat.le_of_ble_eq_true rfl, Nat.le_of_ble_eq_true rfl⟩ (sk_recv hK hw kdn_40 (kd_in kdn_40) (by decide) rfl) (sk_pre hK hw) rfl hl.1 rfl (Nat.le_of_ble_eq_true rfl) (okX6_weigh (72, .invokevirtual 46, 3) (List.mem_of_getElem? (i := 43) rfl)) ⟨Nat.zero_le _, Nat.zero_le _⟩) hw (fun I_72 H locs hM hw => ?_)
      obtain ⟨hr4, hM⟩ := hM
      obtain ⟨v3_75, ev3_75⟩ : ∃ y : Int, y = v3 + (-1) := ⟨_, rfl⟩
      have hM := hM v3_75 ev3_75
      have hr_v3_75 : rI v3_75 := by rw [ev3_75]; exact hr4
      refine lv_iinc (v := iI v3_75) (lv' := [(3, .int (iI v3_75)), (0, .ref (sk_ad G 37)), (1, .int (iI v1)), (4, .int (iI v4))]) hx hb (okX6_weigh (75, .iinc 3 (-1), 3) (List.mem_of_getElem? (i := 44) rfl)) hl (k := 2) rfl (by rw [ev3_75]; exact iI_add _ _) (by decide) rfl (fun ls hl => ?_)
      refine lv_goto (tgt := 19) hx hb (okX6_weigh (78, .goto (-59), 3) (List.mem_of_getElem? (i := 45) rfl)) (by decide) ?_
      exact (hX_19 v3_75 I_72).1 hM hr_v3_75 H locs ls hw (lv_sub hl [1, 2, 0] rfl)
    have hJ_30 : ∀ (v3 v4 v5 : Int) (I : sk_S), rI v3 → rI v4 → rI v5 → L_Planner_weigh_30 v1 v3 Q X_19 v4 v5 I → ∀ (H : Heap) (locs : List Loc) (ls : Array Slot), sk_W G 198 sk_t I s H locs → lv_has ls 6 [(0, .ref (sk_ad G 37)), (1, .int (iI v1)), (3, .int (iI v3)), (4, .int (iI v4)), (5, .int (iI v5))] → W p l e (headSpec wsX6_weigh rmX6_weigh).room s m ([.ref (sk_ad G 37), .int (iI p1)].toArray) below meth c H locs 0 0 (MQ below (sk_Qv G 198 sk_t Q) ([.ref (sk_ad G 37), .int (iI p1)].toArray) s 0 0 (sk_A G)) (F0 m 30 ls []) := by
      intro v3 v4 v5 I hr_v3 hr_v4 hr_v5 hM H locs ls hw hl
      unfold L_Planner_weigh_30 at hM
      obtain ⟨X_30, hX_30⟩ : ∃ X : Int → Int → sk_S → Prop, ∀ (v4 v5 : Int) (I : sk_S), X v4 v5 I ↔ (rI v4 → rI v5 → ∀ (H : Heap) (locs : List Loc) (ls : Array Slot), sk_W G 198 sk_t I s H locs → lv_has ls 6 [(0, .ref (sk_ad G 37)), (1, .int (iI v1)), (3, .int (iI v3)), (4, .int (iI v4)), (5, .int (iI v5))] → W p l e (headSpec wsX6_weigh rmX6_weigh).room s m ([.ref (sk_ad G 37), .int (iI p1)].toArray) below meth c H locs 0 0 (MQ below (sk_Qv G 198 sk_t Q) ([.ref (sk_ad G 37), .int (iI p1)].toArray) s 0 0 (sk_A G)) (F0 m 30 ls [])) := ⟨_, fun _ _ _ => Iff.rfl⟩
      have hJ_59 : ∀ (v4 v5 : Int) (I : sk_S), rI v4 → rI v5 → J_Planner_weigh_59 v1 v3 v4 v5 Q X_19 X_30 I → ∀ (H : Heap) (locs : List Loc) (ls : Array Slot), sk_W G 198 sk_t I s H locs → lv_has ls 6 [(0, .ref (sk_ad G 37)), (1, .int (iI v1)), (3, .int (iI v3)), (4, .int (iI v4)), (5, .int (iI v5))] → W p l e (headSpec wsX6_weigh rmX6_weigh).room s m ([.ref (sk_ad G 37), .int (iI p1)].toArray) below meth c H locs 0 0 (MQ below (sk_Qv G 198 sk_t Q) ([.ref (sk_ad G 37), .int (iI p1)].toArray) s 0 0 (sk_A G)) (F0 m 59 ls []) := by
        intro v4 v5 I hr_v4 hr_v5 hM H locs ls hw hl
        unfold J_Planner_weigh_59 at hM
        obtain ⟨hr3, hM⟩ := hM
        obtain ⟨v5_59, ev5_59⟩ : ∃ y : Int, y = v5 + 1 := ⟨_, rfl⟩
        have hM := hM v5_59 ev5_59
        have hr_v5_59 : rI v5_59 := by rw [ev5_59]; exact hr3
        refine lv_iinc (v := iI v5_59) (lv' := [(5, .int (iI v5_59)), (0, .ref (sk_ad G 37)), (1, .int (iI v1)), (3, .int (iI v3)), (4, .int (iI v4))]) hx hb (okX6_weigh (59, .iinc 5 1, 3) (List.mem_of_getElem? (i := 37) rfl)) hl (k := 4) rfl (by rw [ev5_59]; exact iI_add _ _) (by decide) rfl (fun ls hl => ?_)
        refine lv_goto (tgt := 30) hx hb (okX6_weigh (62, .goto (-32), 3) (List.mem_of_getElem? (i := 38) rfl)) (by decide) ?_
        exact (hX_30 v4 v5_59 I).1 hM hr_v4 hr_v5_59 H locs ls hw (lv_sub hl [1, 2, 3, 4, 0] rfl)
      refine (hX_30 v4 v5 I).1 (hM X_30 (fun v4 v5 I hM => (hX_30 v4 v5 I).2 (fun hr_v4 hr_v5 H locs ls hw hl => ?_))) hr_v4 hr_v5 H locs ls hw hl
      refine lv_iload hx hb (okX6_weigh (30, .iload 5, 2) (List.mem_of_getElem? (i := 21) rfl)) (lv_at hl 4 rfl) ?_
      refine lv_iload_n hx hb (okX6_weigh (32, .iload_n 1, 1) (List.mem_of_getElem? (i := 22) rfl)) rfl (lv_at hl 1 rfl) ?_
      refine sk_icmp_ge (tgt := 65) hx hb hr_v5 hr_v1 (okX6_weigh (33, .if_icmp .ge 32, 3) (List.mem_of_getElem? (i := 23) rfl)) (by decide) (fun c33 => ?_) (fun c33 => ?_)
      · have hM := hM.1 c33
        exact hJ_65 v3 v4 I hr_v3 hr_v4 hM H locs ls hw (lv_sub hl [0, 1, 2, 3] rfl)
      · have hM := hM.2 c33
        refine lv_iload_n hx hb (okX6_weigh (36, .iload_n 3, 1) (List.mem_of_getElem? (i := 24) rfl)) rfl (lv_at hl 2 rfl) ?_
        refine lv_iload hx hb (okX6_weigh (37, .iload 5, 2) (List.mem_of_getElem? (i := 25) rfl)) (lv_at hl 4 rfl) ?_
        refine sk_ishr hx hb (okX6_weigh (39, .ishr, 1) (List.mem_of_getElem? (i := 26) rfl)) ?_
        refine lv_iconst (v := iI 1) hx hb (okX6_weigh (40, .iconst 1, 1) (List.mem_of_getElem? (i := 27) rfl)) rfl ?_
        refine sk_iand hx hb (okX6_weigh (41, .iand, 1) (List.mem_of_getElem? (i := 28) rfl)) ?_
        refine sk_if_ne (tgt := 59) hx hb (rI_of _) (okX6_weigh (42, .ifCond .ne 17, 3) (List.mem_of_getElem? (i := 29) rfl)) (by decide) (fun c42 => ?_) (fun c42 => ?_)
        · have hM := hM.1 c42
          exact hJ_59 v4 v5 I hr_v4 hr_v5 hM H locs ls hw (lv_sub hl [0, 1, 2, 3, 4] rfl)
        · have hM := hM.2 c42
          refine lv_iload hx hb (okX6_weigh (45, .iload 4, 2) (List.mem_of_getElem? (i := 30) rfl)) (lv_at hl 3 rfl) ?_
          refine lv_aload_n hx hb (okX6_weigh (47, .aload_n 0, 1) (List.mem_of_getElem? (i := 31) rfl)) rfl (lv_at hl 0 rfl) ?_
          refine lv_iload_n hx hb (okX6_weigh (48, .iload_n 3, 1) (List.mem_of_getElem? (i := 32) rfl)) rfl (lv_at hl 2 rfl) ?_
          refine lv_iload hx hb (okX6_weigh (49, .iload 5, 2) (List.mem_of_getElem? (i := 33) rfl)) (lv_at hl 4 rfl) ?_
          refine sk_ci (sk_runV (a := 37) (C := RX6) (As := [.int (iI v3), .int (iI v5)]) (rest := [.int (iI v4)]) S (c_Planner_needWith l G hr_v3 hr_v5 hM) sk_blind gX6_weigh_X6_needWith rfl hdX6_needWith ⟨⟨rfl, rfl⟩, Nat.le_of_ble_eq_true rfl, Nat.le_of_ble_eq_true rfl⟩ (sk_recv hK hw kdn_37 (kd_in kdn_37) (by decide) rfl) (sk_pre hK hw) rfl hl.1 rfl (Nat.le_of_ble_eq_true rfl) (okX6_weigh (51, .invokevirtual 57, 3) (List.mem_of_getElem? (i := 34) rfl)) ⟨Nat.zero_le _, Nat.zero_le _⟩) hw (fun r_51 I_51 H locs hr_r_51 hM hw => ?_)
          refine sk_min hx hb (hml.trans hl.1.symm) hown hL2 hL3 hL4 hL5 ⟨Nat.le_of_ble_eq_true rfl, Nat.le_of_ble_eq_true rfl, Nat.zero_le _, Nat.zero_le _⟩ hr_v4 hr_r_51 (okX6_weigh (54, .invokestatic 36, 3) (List.mem_of_getElem? (i := 35) rfl)) ?_
          refine sk_nm (fun v4_57 ev4_57 => ?_)
          have hM := hM v4_57 ev4_57
          have hr_v4_57 : rI v4_57 := by rw [ev4_57]; exact (rI_imin hr_v4 hr_r_51)
          refine lv_istore (lv' := [(4, .int (iI v4_57)), (0, .ref (sk_ad G 37)), (1, .int (iI v1)), (3, .int (iI v3)), (5, .int (iI v5))]) hx hb (okX6_weigh (57, .istore 4, 2) (List.mem_of_getElem? (i := 36) rfl)) hl (by decide) rfl (fun ls hl => ?_)
          exact hJ_59 v4_57 v5 I_51 hr_v4_57 hr_v5 hM H locs ls hw (lv_sub hl [1, 2, 3, 0, 4] rfl)
    refine (hX_19 v3 I).1 (hM X_19 (fun v3 I hM => (hX_19 v3 I).2 (fun hr_v3 H locs ls hw hl => ?_))) hr_v3 H locs ls hw hl
    refine lv_iload_n hx hb (okX6_weigh (19, .iload_n 3, 1) (List.mem_of_getElem? (i := 15) rfl)) rfl (lv_at hl 2 rfl) ?_
    refine sk_if_lt (tgt := 81) hx hb hr_v3 (okX6_weigh (20, .ifCond .lt 61, 3) (List.mem_of_getElem? (i := 16) rfl)) (by decide) (fun c20 => ?_) (fun c20 => ?_)
    · have hM := hM.1 c20
      exact sk_vret hx hb hr0 hlocks hK hw hM (okX6_weigh (81, .return_, 1) (List.mem_of_getElem? (i := 46) rfl))
    · have hM := hM.2 c20
      refine lv_ldc (v := iI 1000000) hx hb hown (by rw [show iI 1000000 = (1000000 : Int32) from by decide +kernel]; exact hL1) (okX6_weigh (23, .ldc 56, 2) (List.mem_of_getElem? (i := 17) rfl)) ?_
      refine lv_istore (lv' := [(4, .int (iI 1000000)), (0, .ref (sk_ad G 37)), (1, .int (iI v1)), (3, .int (iI v3))]) hx hb (okX6_weigh (25, .istore 4, 2) (List.mem_of_getElem? (i := 18) rfl)) hl (by decide) rfl (fun ls hl => ?_)
      refine lv_iconst (v := iI 0) hx hb (okX6_weigh (27, .iconst 0, 1) (List.mem_of_getElem? (i := 19) rfl)) rfl ?_
      refine lv_istore (lv' := [(5, .int (iI 0)), (4, .int (iI 1000000)), (0, .ref (sk_ad G 37)), (1, .int (iI v1)), (3, .int (iI v3))]) hx hb (okX6_weigh (28, .istore 5, 2) (List.mem_of_getElem? (i := 20) rfl)) hl (by decide) rfl (fun ls hl => ?_)
      exact hJ_30 v3 1000000 0 I hr_v3 (by decide) (by decide) hM H locs ls hw (lv_sub hl [2, 3, 4, 1, 0] rfl)
  unfold M_Planner_weigh at hM
  intro H locs hw
  refine lv_iconst (v := iI 1) hx hb (okX6_weigh (0, .iconst 1, 1) (List.mem_of_getElem? (i := 0) rfl)) rfl ?_
  refine lv_iload_n hx hb (okX6_weigh (1, .iload_n 1, 1) (List.mem_of_getElem? (i := 1) rfl)) rfl (lv_at hl 1 rfl) ?_
  refine sk_ishl hx hb (okX6_weigh (2, .ishl, 1) (List.mem_of_getElem? (i := 2) rfl)) ?_
  refine lv_iconst (v := iI 1) hx hb (okX6_weigh (3, .iconst 1, 1) (List.mem_of_getElem? (i := 3) rfl)) rfl ?_
  refine sk_isub hx hb (okX6_weigh (4, .isub, 1) (List.mem_of_getElem? (i := 4) rfl)) ?_
  obtain ⟨hr1, hM⟩ := hM
  refine sk_nm (fun v2_5 ev2_5 => ?_)
  have hM := hM v2_5 ev2_5
  have hr_v2_5 : rI v2_5 := by rw [ev2_5]; exact hr1
  refine lv_istore_n (lv' := [(2, .int (iI v2_5)), (0, .ref (sk_ad G 37)), (1, .int (iI p1))]) hx hb (okX6_weigh (5, .istore_n 2, 1) (List.mem_of_getElem? (i := 5) rfl)) rfl hl (by decide) rfl (fun ls hl => ?_)
  refine lv_aload_n hx hb (okX6_weigh (6, .aload_n 0, 1) (List.mem_of_getElem? (i := 6) rfl)) rfl (lv_at hl 1 rfl) ?_
  refine sk_getr (b := 40) S hK hw kdn_37 (kd_in kdn_37) (C := RX6) (T := TX6) (N := 3) rfl hI6 1 ⟨by decide, rfl, by decide, rfl⟩ rfl (k' := 1) rfl rfl (by decide +kernel) hL0 (okX6_weigh (7, .getfield 20, 3) (List.mem_of_getElem? (i := 7) rfl)) ?_
  refine lv_iload_n hx hb (okX6_weigh (10, .iload_n 2, 1) (List.mem_of_getElem? (i := 8) rfl)) rfl (lv_at hl 0 rfl) ?_
  refine lv_iconst (v := iI 0) hx hb (okX6_weigh (11, .iconst 0, 1) (List.mem_of_getElem? (i := 9) rfl)) rfl ?_
  refine sk_cv (sk_runV (a := 40) (C := RX7) (As := [.int (iI v2_5), .int (iI 0)]) (rest := []) S (c_Row_put l G kdn_40 hr_v2_5 (by decide) hM) sk_blind gX6_weigh_X7_put rfl hdX7_put ⟨⟨rfl, rfl⟩, Nat.le_of_ble_eq_true rfl, Nat.le_of_ble_eq_true rfl⟩ (sk_recv hK hw kdn_40 (kd_in kdn_40) (by decide) rfl) (sk_pre hK hw) rfl hl.1 rfl (Nat.le_of_ble_eq_true rfl) (okX6_weigh (12, .invokevirtual 46, 3) (List.mem_of_getElem? (i := 10) rfl)) ⟨Nat.zero_le _, Nat.zero_le _⟩) hw (fun I_12 H locs hM hw => ?_)
  refine lv_iload_n hx hb (okX6_weigh (15, .iload_n 2, 1) (List.mem_of_getElem? (i := 11) rfl)) rfl (lv_at hl 0 rfl) ?_
  refine lv_iconst (v := iI 1) hx hb (okX6_weigh (16, .iconst 1, 1) (List.mem_of_getElem? (i := 12) rfl)) rfl ?_
  refine sk_isub hx hb (okX6_weigh (17, .isub, 1) (List.mem_of_getElem? (i := 13) rfl)) ?_
  obtain ⟨hr2, hM⟩ := hM
  refine sk_nm (fun v3_18 ev3_18 => ?_)
  have hM := hM v3_18 ev3_18
  have hr_v3_18 : rI v3_18 := by rw [ev3_18]; exact hr2
  refine lv_istore_n (lv' := [(3, .int (iI v3_18)), (2, .int (iI v2_5)), (0, .ref (sk_ad G 37)), (1, .int (iI p1))]) hx hb (okX6_weigh (18, .istore_n 3, 1) (List.mem_of_getElem? (i := 14) rfl)) rfl hl (by decide) rfl (fun ls hl => ?_)
  exact hJ_19 p1 v3_18 I_12 hr_p1 hr_v3_18 hM H locs ls hw (lv_sub hl [2, 3, 0] rfl)
def rmX6_plan : Room := { frames := 4, cells := 0, slots := 0, locals := 219 }
set_option maxHeartbeats 4000000 in
set_option maxRecDepth 100000 in
theorem c_Planner_plan (l : Launch) (G : sk_G) {p1 p2 : Int} (hk_p1 : kd p1 = 5) (hk_p2 : kd p2 = 5) {Q : Int → sk_S → Prop} {I : sk_S} (hM : M_Planner_plan p1 p2 Q I) : Met l yX6_plan wsX6_plan rmX6_plan (va_Pc [.ref (sk_ad G 37), .ref (sk_ad G p1), .ref (sk_ad G p2)] (sk_U G 198 sk_t I)) (sk_Qi G 198 sk_t Q) 0 0 (sk_A G) := by
  refine Met.ofW (cc := cX6_plan) (maxL := 6) (ret := (some .int)) (by decide) rfl ?_
  intro p e s m args below meth c s₁ B hml hv
  obtain ⟨rfl, hU, hK⟩ := hv
  have hx := B.exec
  have hb := B.bytes
  have hr0 := B.returns
  have hts := atoms_spec (ws := wsX6_plan) B.pre
  have hown : s.vm.findClass RX6 = some m.cls := findClass_of_methodNamed B.named
  have hlocks := B.notSynchronized
  have S : CallFix p m c cX6_plan 6 s ([.ref (sk_ad G 37), .ref (sk_ad G p1), .ref (sk_ad G p2)].toArray) wsX6_plan RX6 := ⟨hx, hb, hml, hown, hts⟩
  have hL0 := hts (.methodLink RX6 36 Lib.Math.min.name) (by decide +kernel)
  have hL1 := hts (.static Lib.Math.min.name) (by decide +kernel)
  have hL2 := hts (.initialized "java/lang/Math") (by decide +kernel)
  have hL3 := hts (.code Lib.Math.min.name Lib.Math.min.code 2 (some .int)) (by decide +kernel)
  have hL4 := hts (.fieldLink RX6 14 "SkyLights$Planner" "ways" "LSkyLights$Row;") (by decide +kernel)
  have hL5 := hts (.fieldLink RX6 20 "SkyLights$Planner" "needs" "LSkyLights$Row;") (by decide +kernel)
  have hI6 : ∀ w ∈ u_ws RX6 TX6 3, w ∈ wsX6_plan := by decide +kernel
  have hw : sk_W G 198 sk_t I s s.heap [] := ⟨hU, va_S.rf⟩
  have hl := lv_entry ([.ref (sk_ad G 37), .ref (sk_ad G p1), .ref (sk_ad G p2)]) (n := 6) (Nat.le_of_ble_eq_true rfl)
  rw [lg_entry_eq]
  generalize (lg_sl ([.ref (sk_ad G 37), .ref (sk_ad G p1), .ref (sk_ad G p2)]) ++ List.replicate (6 - (lg_sl ([.ref (sk_ad G 37), .ref (sk_ad G p1), .ref (sk_ad G p2)])).length) Slot.unset).toArray = ls at hl ⊢
  have hl : lv_has ls 6 [(0, .ref (sk_ad G 37)), (1, .ref (sk_ad G p1)), (2, .ref (sk_ad G p2))] := hl
  suffices hgo : ∀ (H : Heap) (locs : List Loc), sk_W G 198 sk_t I s H locs → W p l e (headSpec wsX6_plan rmX6_plan).room s m ([.ref (sk_ad G 37), .ref (sk_ad G p1), .ref (sk_ad G p2)].toArray) below meth c H locs 0 0 (MQ below (sk_Qi G 198 sk_t Q) ([.ref (sk_ad G 37), .ref (sk_ad G p1), .ref (sk_ad G p2)].toArray) s 0 0 (sk_A G)) (F0 m 0 ls []) from hgo _ _ hw
  have hJ_66 : ∀ (v3 : Int) (I : sk_S), rI v3 → J_Planner_plan_66 v3 Q I → ∀ (H : Heap) (locs : List Loc) (ls : Array Slot), sk_W G 198 sk_t I s H locs → lv_has ls 6 [(0, .ref (sk_ad G 37)), (3, .int (iI v3))] → W p l e (headSpec wsX6_plan rmX6_plan).room s m ([.ref (sk_ad G 37), .ref (sk_ad G p1), .ref (sk_ad G p2)].toArray) below meth c H locs 0 0 (MQ below (sk_Qi G 198 sk_t Q) ([.ref (sk_ad G 37), .ref (sk_ad G p1), .ref (sk_ad G p2)].toArray) s 0 0 (sk_A G)) (F0 m 66 ls []) := by
    intro v3 I hr_v3 hM H locs ls hw hl
    unfold J_Planner_plan_66 at hM
    refine lv_aload_n hx hb (okX6_plan (66, .aload_n 0, 1) (List.mem_of_getElem? (i := 33) rfl)) rfl (lv_at hl 0 rfl) ?_
    refine lv_iload_n hx hb (okX6_plan (67, .iload_n 3, 1) (List.mem_of_getElem? (i := 34) rfl)) rfl (lv_at hl 1 rfl) ?_
    refine sk_cv (sk_runV (a := 37) (C := RX6) (As := [.int (iI v3)]) (rest := []) S (c_Planner_weigh l G hr_v3 hM) sk_blind gX6_plan_X6_weigh rfl hdX6_weigh ⟨⟨rfl, rfl⟩, Nat.le_of_ble_eq_true rfl, Nat.le_of_ble_eq_true rfl⟩ (sk_recv hK hw kdn_37 (kd_in kdn_37) (by decide) rfl) (sk_pre hK hw) rfl hl.1 rfl (Nat.le_of_ble_eq_true rfl) (okX6_plan (68, .invokevirtual 50, 3) (List.mem_of_getElem? (i := 35) rfl)) ⟨Nat.zero_le _, Nat.zero_le _⟩) hw (fun I_68 H locs hM hw => ?_)
    refine lv_aload_n hx hb (okX6_plan (71, .aload_n 0, 1) (List.mem_of_getElem? (i := 36) rfl)) rfl (lv_at hl 0 rfl) ?_
    refine lv_iload_n hx hb (okX6_plan (72, .iload_n 3, 1) (List.mem_of_getElem? (i := 37) rfl)) rfl (lv_at hl 1 rfl) ?_
    refine sk_cv (sk_runV (a := 37) (C := RX6) (As := [.int (iI v3)]) (rest := []) S (c_Planner_choose l G hr_v3 hM) sk_blind gX6_plan_X6_choose rfl hdX6_choose ⟨⟨rfl, rfl⟩, Nat.le_of_ble_eq_true rfl, Nat.le_of_ble_eq_true rfl⟩ (sk_recv hK hw kdn_37 (kd_in kdn_37) (by decide) rfl) (sk_pre hK hw) rfl hl.1 rfl (Nat.le_of_ble_eq_true rfl) (okX6_plan (73, .invokevirtual 53, 3) (List.mem_of_getElem? (i := 38) rfl)) ⟨Nat.zero_le _, Nat.zero_le _⟩) hw (fun I_73 H locs hM hw => ?_)
    refine lv_aload_n hx hb (okX6_plan (76, .aload_n 0, 1) (List.mem_of_getElem? (i := 39) rfl)) rfl (lv_at hl 0 rfl) ?_
    refine sk_getr (b := 40) S hK hw kdn_37 (kd_in kdn_37) (C := RX6) (T := TX6) (N := 3) rfl hI6 1 ⟨by decide, rfl, by decide, rfl⟩ rfl (k' := 1) rfl rfl (by decide +kernel) hL5 (okX6_plan (77, .getfield 20, 3) (List.mem_of_getElem? (i := 40) rfl)) ?_
    refine lv_iconst (v := iI 0) hx hb (okX6_plan (80, .iconst 0, 1) (List.mem_of_getElem? (i := 41) rfl)) rfl ?_
    refine sk_ci (sk_runV (a := 40) (C := RX7) (As := [.int (iI 0)]) (rest := []) S (c_Row_at l G kdn_40 (by decide) hM) sk_blind gX6_plan_X7_at rfl hdX7_at ⟨⟨rfl, rfl⟩, Nat.le_of_ble_eq_true rfl, Nat.le_of_ble_eq_true rfl⟩ (sk_recv hK hw kdn_40 (kd_in kdn_40) (by decide) rfl) (sk_pre hK hw) rfl hl.1 rfl (Nat.le_of_ble_eq_true rfl) (okX6_plan (81, .invokevirtual 26, 3) (List.mem_of_getElem? (i := 42) rfl)) ⟨Nat.zero_le _, Nat.zero_le _⟩) hw (fun r_81 I_81 H locs hr_r_81 hM hw => ?_)
    exact sk_iret hx hb hr0 hlocks hK hw hr_r_81 hM (okX6_plan (84, .ireturn, 1) (List.mem_of_getElem? (i := 43) rfl))
  have hJ_15 : ∀ (v1 v2 v3 v4 : Int) (I : sk_S), kd v1 = 5 → kd v2 = 5 → rI v3 → rI v4 → L_Planner_plan_15 v1 v2 v3 Q v4 I → ∀ (H : Heap) (locs : List Loc) (ls : Array Slot), sk_W G 198 sk_t I s H locs → lv_has ls 6 [(0, .ref (sk_ad G 37)), (1, .ref (sk_ad G v1)), (2, .ref (sk_ad G v2)), (3, .int (iI v3)), (4, .int (iI v4))] → W p l e (headSpec wsX6_plan rmX6_plan).room s m ([.ref (sk_ad G 37), .ref (sk_ad G p1), .ref (sk_ad G p2)].toArray) below meth c H locs 0 0 (MQ below (sk_Qi G 198 sk_t Q) ([.ref (sk_ad G 37), .ref (sk_ad G p1), .ref (sk_ad G p2)].toArray) s 0 0 (sk_A G)) (F0 m 15 ls []) := by
    intro v1 v2 v3 v4 I hk_v1 hk_v2 hr_v3 hr_v4 hM H locs ls hw hl
    unfold L_Planner_plan_15 at hM
    obtain ⟨X_15, hX_15⟩ : ∃ X : Int → sk_S → Prop, ∀ (v4 : Int) (I : sk_S), X v4 I ↔ (rI v4 → ∀ (H : Heap) (locs : List Loc) (ls : Array Slot), sk_W G 198 sk_t I s H locs → lv_has ls 6 [(0, .ref (sk_ad G 37)), (1, .ref (sk_ad G v1)), (2, .ref (sk_ad G v2)), (3, .int (iI v3)), (4, .int (iI v4))] → W p l e (headSpec wsX6_plan rmX6_plan).room s m ([.ref (sk_ad G 37), .ref (sk_ad G p1), .ref (sk_ad G p2)].toArray) below meth c H locs 0 0 (MQ below (sk_Qi G 198 sk_t Q) ([.ref (sk_ad G 37), .ref (sk_ad G p1), .ref (sk_ad G p2)].toArray) s 0 0 (sk_A G)) (F0 m 15 ls [])) := ⟨_, fun _ _ => Iff.rfl⟩
    have hJ_60 : ∀ (v4 : Int) (I : sk_S), rI v4 → J_Planner_plan_60 v1 v2 v3 v4 Q X_15 I → ∀ (H : Heap) (locs : List Loc) (ls : Array Slot), sk_W G 198 sk_t I s H locs → lv_has ls 6 [(0, .ref (sk_ad G 37)), (1, .ref (sk_ad G v1)), (2, .ref (sk_ad G v2)), (3, .int (iI v3)), (4, .int (iI v4))] → W p l e (headSpec wsX6_plan rmX6_plan).room s m ([.ref (sk_ad G 37), .ref (sk_ad G p1), .ref (sk_ad G p2)].toArray) below meth c H locs 0 0 (MQ below (sk_Qi G 198 sk_t Q) ([.ref (sk_ad G 37), .ref (sk_ad G p1), .ref (sk_ad G p2)].toArray) s 0 0 (sk_A G)) (F0 m 60 ls []) := by
      intro v4 I hr_v4 hM H locs ls hw hl
      unfold J_Planner_plan_60 at hM
      obtain ⟨hr3, hM⟩ := hM
      obtain ⟨v4_60, ev4_60⟩ : ∃ y : Int, y = v4 + 1 := ⟨_, rfl⟩
      have hM := hM v4_60 ev4_60
      have hr_v4_60 : rI v4_60 := by rw [ev4_60]; exact hr3
      refine lv_iinc (v := iI v4_60) (lv' := [(4, .int (iI v4_60)), (0, .ref (sk_ad G 37)), (1, .ref (sk_ad G v1)), (2, .ref (sk_ad G v2)), (3, .int (iI v3))]) hx hb (okX6_plan (60, .iinc 4 1, 3) (List.mem_of_getElem? (i := 31) rfl)) hl (k := 4) rfl (by rw [ev4_60]; exact iI_add _ _) (by decide) rfl (fun ls hl => ?_)
      refine lv_goto (tgt := 15) hx hb (okX6_plan (63, .goto (-48), 3) (List.mem_of_getElem? (i := 32) rfl)) (by decide) ?_
      exact (hX_15 v4_60 I).1 hM hr_v4_60 H locs ls hw (lv_sub hl [1, 2, 3, 4, 0] rfl)
    have hJ_24 : ∀ (v4 v5 : Int) (I : sk_S), rI v4 → rI v5 → L_Planner_plan_24 v1 v2 v3 v4 Q X_15 v5 I → ∀ (H : Heap) (locs : List Loc) (ls : Array Slot), sk_W G 198 sk_t I s H locs → lv_has ls 6 [(0, .ref (sk_ad G 37)), (1, .ref (sk_ad G v1)), (2, .ref (sk_ad G v2)), (3, .int (iI v3)), (4, .int (iI v4)), (5, .int (iI v5))] → W p l e (headSpec wsX6_plan rmX6_plan).room s m ([.ref (sk_ad G 37), .ref (sk_ad G p1), .ref (sk_ad G p2)].toArray) below meth c H locs 0 0 (MQ below (sk_Qi G 198 sk_t Q) ([.ref (sk_ad G 37), .ref (sk_ad G p1), .ref (sk_ad G p2)].toArray) s 0 0 (sk_A G)) (F0 m 24 ls []) := by
      intro v4 v5 I hr_v4 hr_v5 hM H locs ls hw hl
      unfold L_Planner_plan_24 at hM
      obtain ⟨X_24, hX_24⟩ : ∃ X : Int → sk_S → Prop, ∀ (v5 : Int) (I : sk_S), X v5 I ↔ (rI v5 → ∀ (H : Heap) (locs : List Loc) (ls : Array Slot), sk_W G 198 sk_t I s H locs → lv_has ls 6 [(0, .ref (sk_ad G 37)), (1, .ref (sk_ad G v1)), (2, .ref (sk_ad G v2)), (3, .int (iI v3)), (4, .int (iI v4)), (5, .int (iI v5))] → W p l e (headSpec wsX6_plan rmX6_plan).room s m ([.ref (sk_ad G 37), .ref (sk_ad G p1), .ref (sk_ad G p2)].toArray) below meth c H locs 0 0 (MQ below (sk_Qi G 198 sk_t Q) ([.ref (sk_ad G 37), .ref (sk_ad G p1), .ref (sk_ad G p2)].toArray) s 0 0 (sk_A G)) (F0 m 24 ls [])) := ⟨_, fun _ _ => Iff.rfl⟩
      refine (hX_24 v5 I).1 (hM X_24 (fun v5 I hM => (hX_24 v5 I).2 (fun hr_v5 H locs ls hw hl => ?_))) hr_v5 H locs ls hw hl
      refine lv_iload hx hb (okX6_plan (24, .iload 5, 2) (List.mem_of_getElem? (i := 13) rfl)) (lv_at hl 5 rfl) ?_
      refine lv_iload_n hx hb (okX6_plan (26, .iload_n 3, 1) (List.mem_of_getElem? (i := 14) rfl)) rfl (lv_at hl 3 rfl) ?_
      refine sk_icmp_ge (tgt := 60) hx hb hr_v5 hr_v3 (okX6_plan (27, .if_icmp .ge 33, 3) (List.mem_of_getElem? (i := 15) rfl)) (by decide) (fun c27 => ?_) (fun c27 => ?_)
      · have hM := hM.1 c27
        exact hJ_60 v4 I hr_v4 hM H locs ls hw (lv_sub hl [0, 1, 2, 3, 4] rfl)
      · have hM := hM.2 c27
        refine lv_aload_n hx hb (okX6_plan (30, .aload_n 0, 1) (List.mem_of_getElem? (i := 16) rfl)) rfl (lv_at hl 0 rfl) ?_
        refine sk_getr (b := 38) S hK hw kdn_37 (kd_in kdn_37) (C := RX6) (T := TX6) (N := 3) rfl hI6 0 ⟨by decide, rfl, by decide, rfl⟩ rfl (k' := 0) rfl rfl (by decide +kernel) hL4 (okX6_plan (31, .getfield 14, 3) (List.mem_of_getElem? (i := 17) rfl)) ?_
        refine lv_iload hx hb (okX6_plan (34, .iload 4, 2) (List.mem_of_getElem? (i := 18) rfl)) (lv_at hl 4 rfl) ?_
        refine lv_bipush (v := iI 10) hx hb (okX6_plan (36, .bipush 10, 2) (List.mem_of_getElem? (i := 19) rfl)) (by decide +kernel) ?_
        refine sk_imul hx hb (okX6_plan (38, .imul, 1) (List.mem_of_getElem? (i := 20) rfl)) ?_
        refine lv_iload hx hb (okX6_plan (39, .iload 5, 2) (List.mem_of_getElem? (i := 21) rfl)) (lv_at hl 5 rfl) ?_
        refine sk_iadd hx hb (okX6_plan (41, .iadd, 1) (List.mem_of_getElem? (i := 22) rfl)) ?_
        refine lv_aload_n hx hb (okX6_plan (42, .aload_n 1, 1) (List.mem_of_getElem? (i := 23) rfl)) rfl (lv_at hl 1 rfl) ?_
        refine lv_iload hx hb (okX6_plan (43, .iload 4, 2) (List.mem_of_getElem? (i := 24) rfl)) (lv_at hl 4 rfl) ?_
        refine lv_aload_n hx hb (okX6_plan (45, .aload_n 2, 1) (List.mem_of_getElem? (i := 25) rfl)) rfl (lv_at hl 2 rfl) ?_
        refine lv_iload hx hb (okX6_plan (46, .iload 5, 2) (List.mem_of_getElem? (i := 26) rfl)) (lv_at hl 5 rfl) ?_
        refine sk_ci (sk_runV (a := v1) (C := RX5) (As := [.int (iI v4), .ref (sk_ad G v2), .int (iI v5)]) (rest := [.int (iI ((v4 * 10) + v5)), .ref (sk_ad G 38)]) S (c_Places_way l G hk_v1 hr_v4 hk_v2 hr_v5 hM) sk_blind gX6_plan_X5_way rfl hdX5_way ⟨⟨rfl, rfl⟩, Nat.le_of_ble_eq_true rfl, Nat.le_of_ble_eq_true rfl⟩ (sk_recv hK hw hk_v1 (kd_in hk_v1) (by decide) rfl) (sk_pre hK hw) rfl hl.1 rfl (Nat.le_of_ble_eq_true rfl) (okX6_plan (48, .invokevirtual 42, 3) (List.mem_of_getElem? (i := 27) rfl)) ⟨Nat.zero_le _, Nat.zero_le _⟩) hw (fun r_48 I_48 H locs hr_r_48 hM hw => ?_)
        obtain ⟨hr1, hM⟩ := hM
        refine sk_cv (sk_runV (a := 38) (C := RX7) (As := [.int (iI ((v4 * 10) + v5)), .int (iI r_48)]) (rest := []) S (c_Row_put l G kdn_38 hr1 hr_r_48 hM) sk_blind gX6_plan_X7_put rfl hdX7_put ⟨⟨rfl, rfl⟩, Nat.le_of_ble_eq_true rfl, Nat.le_of_ble_eq_true rfl⟩ (sk_recv hK hw kdn_38 (kd_in kdn_38) (by decide) rfl) (sk_pre hK hw) rfl hl.1 rfl (Nat.le_of_ble_eq_true rfl) (okX6_plan (51, .invokevirtual 46, 3) (List.mem_of_getElem? (i := 28) rfl)) ⟨Nat.zero_le _, Nat.zero_le _⟩) hw (fun I_51 H locs hM hw => ?_)
        obtain ⟨hr2, hM⟩ := hM
        obtain ⟨v5_54, ev5_54⟩ : ∃ y : Int, y = v5 + 1 := ⟨_, rfl⟩
        have hM := hM v5_54 ev5_54
        have hr_v5_54 : rI v5_54 := by rw [ev5_54]; exact hr2
        refine lv_iinc (v := iI v5_54) (lv' := [(5, .int (iI v5_54)), (0, .ref (sk_ad G 37)), (1, .ref (sk_ad G v1)), (2, .ref (sk_ad G v2)), (3, .int (iI v3)), (4, .int (iI v4))]) hx hb (okX6_plan (54, .iinc 5 1, 3) (List.mem_of_getElem? (i := 29) rfl)) hl (k := 5) rfl (by rw [ev5_54]; exact iI_add _ _) (by decide) rfl (fun ls hl => ?_)
        refine lv_goto (tgt := 24) hx hb (okX6_plan (57, .goto (-33), 3) (List.mem_of_getElem? (i := 30) rfl)) (by decide) ?_
        exact (hX_24 v5_54 I_51).1 hM hr_v5_54 H locs ls hw (lv_sub hl [1, 2, 3, 4, 5, 0] rfl)
    refine (hX_15 v4 I).1 (hM X_15 (fun v4 I hM => (hX_15 v4 I).2 (fun hr_v4 H locs ls hw hl => ?_))) hr_v4 H locs ls hw hl
    refine lv_iload hx hb (okX6_plan (15, .iload 4, 2) (List.mem_of_getElem? (i := 8) rfl)) (lv_at hl 4 rfl) ?_
    refine lv_iload_n hx hb (okX6_plan (17, .iload_n 3, 1) (List.mem_of_getElem? (i := 9) rfl)) rfl (lv_at hl 3 rfl) ?_
    refine sk_icmp_ge (tgt := 66) hx hb hr_v4 hr_v3 (okX6_plan (18, .if_icmp .ge 48, 3) (List.mem_of_getElem? (i := 10) rfl)) (by decide) (fun c18 => ?_) (fun c18 => ?_)
    · have hM := hM.1 c18
      exact hJ_66 v3 I hr_v3 hM H locs ls hw (lv_sub hl [0, 3] rfl)
    · have hM := hM.2 c18
      refine lv_iconst (v := iI 0) hx hb (okX6_plan (21, .iconst 0, 1) (List.mem_of_getElem? (i := 11) rfl)) rfl ?_
      refine lv_istore (lv' := [(5, .int (iI 0)), (0, .ref (sk_ad G 37)), (1, .ref (sk_ad G v1)), (2, .ref (sk_ad G v2)), (3, .int (iI v3)), (4, .int (iI v4))]) hx hb (okX6_plan (22, .istore 5, 2) (List.mem_of_getElem? (i := 12) rfl)) hl (by decide) rfl (fun ls hl => ?_)
      exact hJ_24 v4 0 I hr_v4 (by decide) hM H locs ls hw (lv_sub hl [1, 2, 3, 4, 5, 0] rfl)
  unfold M_Planner_plan at hM
  intro H locs hw
  refine lv_aload_n hx hb (okX6_plan (0, .aload_n 1, 1) (List.mem_of_getElem? (i := 0) rfl)) rfl (lv_at hl 1 rfl) ?_
  refine sk_ci (sk_runV (a := p1) (C := RX5) (As := []) (rest := []) S (c_Places_size l G hk_p1 hM) sk_blind gX6_plan_X5_size rfl hdX5_size ⟨⟨rfl, rfl⟩, Nat.le_of_ble_eq_true rfl, Nat.le_of_ble_eq_true rfl⟩ (sk_recv hK hw hk_p1 (kd_in hk_p1) (by decide) rfl) (sk_pre hK hw) rfl hl.1 rfl (Nat.le_of_ble_eq_true rfl) (okX6_plan (1, .invokevirtual 30, 3) (List.mem_of_getElem? (i := 1) rfl)) ⟨Nat.zero_le _, Nat.zero_le _⟩) hw (fun r_1 I_1 H locs hr_r_1 hM hw => ?_)
  refine lv_aload_n hx hb (okX6_plan (4, .aload_n 2, 1) (List.mem_of_getElem? (i := 2) rfl)) rfl (lv_at hl 2 rfl) ?_
  refine sk_ci (sk_runV (a := p2) (C := RX5) (As := []) (rest := [.int (iI r_1)]) S (c_Places_size l G hk_p2 hM) sk_blind gX6_plan_X5_size rfl hdX5_size ⟨⟨rfl, rfl⟩, Nat.le_of_ble_eq_true rfl, Nat.le_of_ble_eq_true rfl⟩ (sk_recv hK hw hk_p2 (kd_in hk_p2) (by decide) rfl) (sk_pre hK hw) rfl hl.1 rfl (Nat.le_of_ble_eq_true rfl) (okX6_plan (5, .invokevirtual 30, 3) (List.mem_of_getElem? (i := 3) rfl)) ⟨Nat.zero_le _, Nat.zero_le _⟩) hw (fun r_5 I_5 H locs hr_r_5 hM hw => ?_)
  refine sk_min hx hb (hml.trans hl.1.symm) hown hL0 hL1 hL2 hL3 ⟨Nat.le_of_ble_eq_true rfl, Nat.le_of_ble_eq_true rfl, Nat.zero_le _, Nat.zero_le _⟩ hr_r_1 hr_r_5 (okX6_plan (8, .invokestatic 36, 3) (List.mem_of_getElem? (i := 4) rfl)) ?_
  refine sk_nm (fun v3_11 ev3_11 => ?_)
  have hM := hM v3_11 ev3_11
  have hr_v3_11 : rI v3_11 := by rw [ev3_11]; exact (rI_imin hr_r_1 hr_r_5)
  refine lv_istore_n (lv' := [(3, .int (iI v3_11)), (0, .ref (sk_ad G 37)), (1, .ref (sk_ad G p1)), (2, .ref (sk_ad G p2))]) hx hb (okX6_plan (11, .istore_n 3, 1) (List.mem_of_getElem? (i := 5) rfl)) rfl hl (by decide) rfl (fun ls hl => ?_)
  refine lv_iconst (v := iI 0) hx hb (okX6_plan (12, .iconst 0, 1) (List.mem_of_getElem? (i := 6) rfl)) rfl ?_
  refine lv_istore (lv' := [(4, .int (iI 0)), (3, .int (iI v3_11)), (0, .ref (sk_ad G 37)), (1, .ref (sk_ad G p1)), (2, .ref (sk_ad G p2))]) hx hb (okX6_plan (13, .istore 4, 2) (List.mem_of_getElem? (i := 7) rfl)) hl (by decide) rfl (fun ls hl => ?_)
  exact hJ_15 p1 p2 v3_11 0 I_5 hk_p1 hk_p2 hr_v3_11 (by decide) hM H locs ls hw (lv_sub hl [2, 3, 4, 1, 0] rfl)
def rmX4_lead : Room := { frames := 5, cells := 0, slots := 0, locals := 276 }
set_option maxHeartbeats 4000000 in
set_option maxRecDepth 100000 in
theorem c_Pass_lead (l : Launch) (G : sk_G) {p0 p1 p2 p3 : Int} (hk_p0 : kd p0 = 4) (hk_p1 : kd p1 = 5) (hk_p2 : kd p2 = 5) (hr_p3 : rI p3) {Q : Int → sk_S → Prop} {I : sk_S} (hM : M_Pass_lead p0 p1 p2 p3 Q I) : Met l yX4_lead wsX4_lead rmX4_lead (va_Pc [.ref (sk_ad G p0), .ref (sk_ad G p1), .ref (sk_ad G p2), .int (iI p3), .ref (sk_ad G 37)] (sk_U G 198 sk_t I)) (sk_Qi G 198 sk_t Q) 0 0 (sk_A G) := by
  refine Met.ofW (cc := cX4_lead) (maxL := 10) (ret := (some .int)) (by decide) rfl ?_
  intro p e s m args below meth c s₁ B hml hv
  obtain ⟨rfl, hU, hK⟩ := hv
  have hx := B.exec
  have hb := B.bytes
  have hr0 := B.returns
  have hts := atoms_spec (ws := wsX4_lead) B.pre
  have hown : s.vm.findClass RX4 = some m.cls := findClass_of_methodNamed B.named
  have hlocks := B.notSynchronized
  have S : CallFix p m c cX4_lead 10 s ([.ref (sk_ad G p0), .ref (sk_ad G p1), .ref (sk_ad G p2), .int (iI p3), .ref (sk_ad G 37)].toArray) wsX4_lead RX4 := ⟨hx, hb, hml, hown, hts⟩
  have hL0 := hts (.fieldLink RX4 20 "SkyLights$Pass" "size" "I") (by decide +kernel)
  have hL1 := hts (.fieldLink RX4 24 "SkyLights$Pass" "ticks" "I") (by decide +kernel)
  have hL2 := hts (.fieldLink RX4 16 "SkyLights$Pass" "cells" "LSkyLights$Row;") (by decide +kernel)
  have hI4 : ∀ w ∈ u_ws RX4 TX4 3, w ∈ wsX4_lead := by decide +kernel
  have hw : sk_W G 198 sk_t I s s.heap [] := ⟨hU, va_S.rf⟩
  have hl := lv_entry ([.ref (sk_ad G p0), .ref (sk_ad G p1), .ref (sk_ad G p2), .int (iI p3), .ref (sk_ad G 37)]) (n := 10) (Nat.le_of_ble_eq_true rfl)
  rw [lg_entry_eq]
  generalize (lg_sl ([.ref (sk_ad G p0), .ref (sk_ad G p1), .ref (sk_ad G p2), .int (iI p3), .ref (sk_ad G 37)]) ++ List.replicate (10 - (lg_sl ([.ref (sk_ad G p0), .ref (sk_ad G p1), .ref (sk_ad G p2), .int (iI p3), .ref (sk_ad G 37)])).length) Slot.unset).toArray = ls at hl ⊢
  have hl : lv_has ls 10 [(0, .ref (sk_ad G p0)), (1, .ref (sk_ad G p1)), (2, .ref (sk_ad G p2)), (3, .int (iI p3)), (4, .ref (sk_ad G 37))] := hl
  suffices hgo : ∀ (H : Heap) (locs : List Loc), sk_W G 198 sk_t I s H locs → W p l e (headSpec wsX4_lead rmX4_lead).room s m ([.ref (sk_ad G p0), .ref (sk_ad G p1), .ref (sk_ad G p2), .int (iI p3), .ref (sk_ad G 37)].toArray) below meth c H locs 0 0 (MQ below (sk_Qi G 198 sk_t Q) ([.ref (sk_ad G p0), .ref (sk_ad G p1), .ref (sk_ad G p2), .int (iI p3), .ref (sk_ad G 37)].toArray) s 0 0 (sk_A G)) (F0 m 0 ls []) from hgo _ _ hw
  have hJ_25 : ∀ (v0 v1 v2 v5 v6 : Int) (I : sk_S), kd v0 = 4 → kd v1 = 5 → kd v2 = 5 → rI v5 → rI v6 → L_Pass_lead_25 v0 v1 v2 v5 Q v6 I → ∀ (H : Heap) (locs : List Loc) (ls : Array Slot), sk_W G 198 sk_t I s H locs → lv_has ls 10 [(0, .ref (sk_ad G v0)), (1, .ref (sk_ad G v1)), (2, .ref (sk_ad G v2)), (4, .ref (sk_ad G 37)), (5, .int (iI v5)), (6, .int (iI v6))] → W p l e (headSpec wsX4_lead rmX4_lead).room s m ([.ref (sk_ad G p0), .ref (sk_ad G p1), .ref (sk_ad G p2), .int (iI p3), .ref (sk_ad G 37)].toArray) below meth c H locs 0 0 (MQ below (sk_Qi G 198 sk_t Q) ([.ref (sk_ad G p0), .ref (sk_ad G p1), .ref (sk_ad G p2), .int (iI p3), .ref (sk_ad G 37)].toArray) s 0 0 (sk_A G)) (F0 m 25 ls []) := by
    intro v0 v1 v2 v5 v6 I hk_v0 hk_v1 hk_v2 hr_v5 hr_v6 hM H locs ls hw hl
    unfold L_Pass_lead_25 at hM
    obtain ⟨X_25, hX_25⟩ : ∃ X : Int → sk_S → Prop, ∀ (v6 : Int) (I : sk_S), X v6 I ↔ (rI v6 → ∀ (H : Heap) (locs : List Loc) (ls : Array Slot), sk_W G 198 sk_t I s H locs → lv_has ls 10 [(0, .ref (sk_ad G v0)), (1, .ref (sk_ad G v1)), (2, .ref (sk_ad G v2)), (4, .ref (sk_ad G 37)), (5, .int (iI v5)), (6, .int (iI v6))] → W p l e (headSpec wsX4_lead rmX4_lead).room s m ([.ref (sk_ad G p0), .ref (sk_ad G p1), .ref (sk_ad G p2), .int (iI p3), .ref (sk_ad G 37)].toArray) below meth c H locs 0 0 (MQ below (sk_Qi G 198 sk_t Q) ([.ref (sk_ad G p0), .ref (sk_ad G p1), .ref (sk_ad G p2), .int (iI p3), .ref (sk_ad G 37)].toArray) s 0 0 (sk_A G)) (F0 m 25 ls [])) := ⟨_, fun _ _ => Iff.rfl⟩
    have hJ_113 : ∀ (v6 v7 : Int) (I : sk_S), rI v6 → rI v7 → J_Pass_lead_113 v0 v1 v2 v5 v6 v7 Q X_25 I → ∀ (H : Heap) (locs : List Loc) (ls : Array Slot), sk_W G 198 sk_t I s H locs → lv_has ls 10 [(0, .ref (sk_ad G v0)), (1, .ref (sk_ad G v1)), (2, .ref (sk_ad G v2)), (4, .ref (sk_ad G 37)), (5, .int (iI v5)), (6, .int (iI v6)), (7, .int (iI v7))] → W p l e (headSpec wsX4_lead rmX4_lead).room s m ([.ref (sk_ad G p0), .ref (sk_ad G p1), .ref (sk_ad G p2), .int (iI p3), .ref (sk_ad G 37)].toArray) below meth c H locs 0 0 (MQ below (sk_Qi G 198 sk_t Q) ([.ref (sk_ad G p0), .ref (sk_ad G p1), .ref (sk_ad G p2), .int (iI p3), .ref (sk_ad G 37)].toArray) s 0 0 (sk_A G)) (F0 m 113 ls []) := by
      intro v6 v7 I hr_v6 hr_v7 hM H locs ls hw hl
      unfold J_Pass_lead_113 at hM
      refine lv_aload_n hx hb (okX4_lead (113, .aload_n 0, 1) (List.mem_of_getElem? (i := 59) rfl)) rfl (lv_at hl 0 rfl) ?_
      refine sk_getr (b := (v0 + 1)) S hK hw hk_v0 (kd_in hk_v0) (C := RX4) (T := TX4) (N := 3) rfl hI4 0 ⟨by decide, rfl, by decide, rfl⟩ rfl (k' := 0) rfl rfl (rf4 hk_v0) hL2 (okX4_lead (114, .getfield 16, 3) (List.mem_of_getElem? (i := 60) rfl)) ?_
      refine lv_iload hx hb (okX4_lead (117, .iload 6, 2) (List.mem_of_getElem? (i := 61) rfl)) (lv_at hl 5 rfl) ?_
      refine lv_bipush (v := iI 8) hx hb (okX4_lead (119, .bipush 8, 2) (List.mem_of_getElem? (i := 62) rfl)) (by decide +kernel) ?_
      refine sk_imul hx hb (okX4_lead (121, .imul, 1) (List.mem_of_getElem? (i := 63) rfl)) ?_
      refine lv_bipush (v := iI 6) hx hb (okX4_lead (122, .bipush 6, 2) (List.mem_of_getElem? (i := 64) rfl)) (by decide +kernel) ?_
      refine sk_iadd hx hb (okX4_lead (124, .iadd, 1) (List.mem_of_getElem? (i := 65) rfl)) ?_
      refine lv_iload hx hb (okX4_lead (125, .iload 7, 2) (List.mem_of_getElem? (i := 66) rfl)) (lv_at hl 6 rfl) ?_
      obtain ⟨hr6, hM⟩ := hM
      refine sk_cv (sk_runV (a := (v0 + 1)) (C := RX7) (As := [.int (iI ((v6 * 8) + 6)), .int (iI v7)]) (rest := []) S (c_Row_put l G (k4 hk_v0) hr6 hr_v7 hM) sk_blind gX4_lead_X7_put rfl hdX7_put ⟨⟨rfl, rfl⟩, Nat.le_of_ble_eq_true rfl, Nat.le_of_ble_eq_true rfl⟩ (sk_recv hK hw (k4 hk_v0) (kd_in (k4 hk_v0)) (by decide) rfl) (sk_pre hK hw) rfl hl.1 rfl (Nat.le_of_ble_eq_true rfl) (okX4_lead (127, .invokevirtual 31, 3) (List.mem_of_getElem? (i := 67) rfl)) ⟨Nat.zero_le _, Nat.zero_le _⟩) hw (fun I_127 H locs hM hw => ?_)
      refine lv_aload_n hx hb (okX4_lead (130, .aload_n 0, 1) (List.mem_of_getElem? (i := 68) rfl)) rfl (lv_at hl 0 rfl) ?_
      refine lv_iload hx hb (okX4_lead (131, .iload 6, 2) (List.mem_of_getElem? (i := 69) rfl)) (lv_at hl 5 rfl) ?_
      refine lv_iconst (v := iI 0) hx hb (okX4_lead (133, .iconst 0, 1) (List.mem_of_getElem? (i := 70) rfl)) rfl ?_
      refine sk_cv (sk_runV (a := v0) (C := RX4) (As := [.int (iI v6), .int (iI 0)]) (rest := []) S (c_Pass_setDelay l G hk_v0 hr_v6 (by decide) hM) sk_blind gX4_lead_X4_setDelay rfl hdX4_setDelay ⟨⟨rfl, rfl⟩, Nat.le_of_ble_eq_true rfl, Nat.le_of_ble_eq_true rfl⟩ (sk_recv hK hw hk_v0 (kd_in hk_v0) (by decide) rfl) (sk_pre hK hw) rfl hl.1 rfl (Nat.le_of_ble_eq_true rfl) (okX4_lead (134, .invokevirtual 53, 3) (List.mem_of_getElem? (i := 71) rfl)) ⟨Nat.zero_le _, Nat.zero_le _⟩) hw (fun I_134 H locs hM hw => ?_)
      obtain ⟨hr7, hM⟩ := hM
      obtain ⟨v6_137, ev6_137⟩ : ∃ y : Int, y = v6 + 1 := ⟨_, rfl⟩
      have hM := hM v6_137 ev6_137
      have hr_v6_137 : rI v6_137 := by rw [ev6_137]; exact hr7
      refine lv_iinc (v := iI v6_137) (lv' := [(6, .int (iI v6_137)), (0, .ref (sk_ad G v0)), (1, .ref (sk_ad G v1)), (2, .ref (sk_ad G v2)), (4, .ref (sk_ad G 37)), (5, .int (iI v5)), (7, .int (iI v7))]) hx hb (okX4_lead (137, .iinc 6 1, 3) (List.mem_of_getElem? (i := 72) rfl)) hl (k := 5) rfl (by rw [ev6_137]; exact iI_add _ _) (by decide) rfl (fun ls hl => ?_)
      refine lv_goto (tgt := 25) hx hb (okX4_lead (140, .goto (-115), 3) (List.mem_of_getElem? (i := 73) rfl)) (by decide) ?_
      exact (hX_25 v6_137 I_134).1 hM hr_v6_137 H locs ls hw (lv_sub hl [1, 2, 3, 4, 5, 0] rfl)
    have hJ_46 : ∀ (v6 v7 v8 : Int) (I : sk_S), rI v6 → rI v7 → rI v8 → L_Pass_lead_46 v0 v1 v2 v5 v6 v7 Q X_25 v8 I → ∀ (H : Heap) (locs : List Loc) (ls : Array Slot), sk_W G 198 sk_t I s H locs → lv_has ls 10 [(0, .ref (sk_ad G v0)), (1, .ref (sk_ad G v1)), (2, .ref (sk_ad G v2)), (4, .ref (sk_ad G 37)), (5, .int (iI v5)), (6, .int (iI v6)), (7, .int (iI v7)), (8, .int (iI v8))] → W p l e (headSpec wsX4_lead rmX4_lead).room s m ([.ref (sk_ad G p0), .ref (sk_ad G p1), .ref (sk_ad G p2), .int (iI p3), .ref (sk_ad G 37)].toArray) below meth c H locs 0 0 (MQ below (sk_Qi G 198 sk_t Q) ([.ref (sk_ad G p0), .ref (sk_ad G p1), .ref (sk_ad G p2), .int (iI p3), .ref (sk_ad G 37)].toArray) s 0 0 (sk_A G)) (F0 m 46 ls []) := by
      intro v6 v7 v8 I hr_v6 hr_v7 hr_v8 hM H locs ls hw hl
      unfold L_Pass_lead_46 at hM
      obtain ⟨X_46, hX_46⟩ : ∃ X : Int → sk_S → Prop, ∀ (v8 : Int) (I : sk_S), X v8 I ↔ (rI v8 → ∀ (H : Heap) (locs : List Loc) (ls : Array Slot), sk_W G 198 sk_t I s H locs → lv_has ls 10 [(0, .ref (sk_ad G v0)), (1, .ref (sk_ad G v1)), (2, .ref (sk_ad G v2)), (4, .ref (sk_ad G 37)), (5, .int (iI v5)), (6, .int (iI v6)), (7, .int (iI v7)), (8, .int (iI v8))] → W p l e (headSpec wsX4_lead rmX4_lead).room s m ([.ref (sk_ad G p0), .ref (sk_ad G p1), .ref (sk_ad G p2), .int (iI p3), .ref (sk_ad G 37)].toArray) below meth c H locs 0 0 (MQ below (sk_Qi G 198 sk_t Q) ([.ref (sk_ad G p0), .ref (sk_ad G p1), .ref (sk_ad G p2), .int (iI p3), .ref (sk_ad G 37)].toArray) s 0 0 (sk_A G)) (F0 m 46 ls [])) := ⟨_, fun _ _ => Iff.rfl⟩
      refine (hX_46 v8 I).1 (hM X_46 (fun v8 I hM => (hX_46 v8 I).2 (fun hr_v8 H locs ls hw hl => ?_))) hr_v8 H locs ls hw hl
      refine lv_iload hx hb (okX4_lead (46, .iload 8, 2) (List.mem_of_getElem? (i := 24) rfl)) (lv_at hl 7 rfl) ?_
      refine lv_iconst (v := iI 3) hx hb (okX4_lead (48, .iconst 3, 1) (List.mem_of_getElem? (i := 25) rfl)) rfl ?_
      refine sk_icmp_ge (tgt := 113) hx hb hr_v8 (by decide) (okX4_lead (49, .if_icmp .ge 64, 3) (List.mem_of_getElem? (i := 26) rfl)) (by decide) (fun c49 => ?_) (fun c49 => ?_)
      · have hM := hM.1 c49
        exact hJ_113 v6 v7 I hr_v6 hr_v7 hM H locs ls hw (lv_sub hl [0, 1, 2, 3, 4, 5, 6] rfl)
      · have hM := hM.2 c49
        refine lv_aload_n hx hb (okX4_lead (52, .aload_n 1, 1) (List.mem_of_getElem? (i := 27) rfl)) rfl (lv_at hl 1 rfl) ?_
        refine lv_iload hx hb (okX4_lead (53, .iload 6, 2) (List.mem_of_getElem? (i := 28) rfl)) (lv_at hl 5 rfl) ?_
        refine lv_iload hx hb (okX4_lead (55, .iload 8, 2) (List.mem_of_getElem? (i := 29) rfl)) (lv_at hl 7 rfl) ?_
        refine sk_ci (sk_runV (a := v1) (C := RX5) (As := [.int (iI v6), .int (iI v8)]) (rest := []) S (c_Places_told l G hk_v1 hr_v6 hr_v8 hM) sk_blind gX4_lead_X5_told rfl hdX5_told ⟨⟨rfl, rfl⟩, Nat.le_of_ble_eq_true rfl, Nat.le_of_ble_eq_true rfl⟩ (sk_recv hK hw hk_v1 (kd_in hk_v1) (by decide) rfl) (sk_pre hK hw) rfl hl.1 rfl (Nat.le_of_ble_eq_true rfl) (okX4_lead (57, .invokevirtual 49, 3) (List.mem_of_getElem? (i := 30) rfl)) ⟨Nat.zero_le _, Nat.zero_le _⟩) hw (fun r_57 I_57 H locs hr_r_57 hM hw => ?_)
        refine lv_istore (lv' := [(9, .int (iI r_57)), (0, .ref (sk_ad G v0)), (1, .ref (sk_ad G v1)), (2, .ref (sk_ad G v2)), (4, .ref (sk_ad G 37)), (5, .int (iI v5)), (6, .int (iI v6)), (7, .int (iI v7)), (8, .int (iI v8))]) hx hb (okX4_lead (60, .istore 9, 2) (List.mem_of_getElem? (i := 31) rfl)) hl (by decide) rfl (fun ls hl => ?_)
        refine lv_aload_n hx hb (okX4_lead (62, .aload_n 0, 1) (List.mem_of_getElem? (i := 32) rfl)) rfl (lv_at hl 1 rfl) ?_
        refine sk_getr (b := (v0 + 1)) S hK hw hk_v0 (kd_in hk_v0) (C := RX4) (T := TX4) (N := 3) rfl hI4 0 ⟨by decide, rfl, by decide, rfl⟩ rfl (k' := 0) rfl rfl (rf4 hk_v0) hL2 (okX4_lead (63, .getfield 16, 3) (List.mem_of_getElem? (i := 33) rfl)) ?_
        refine lv_iload hx hb (okX4_lead (66, .iload 6, 2) (List.mem_of_getElem? (i := 34) rfl)) (lv_at hl 6 rfl) ?_
        refine lv_bipush (v := iI 8) hx hb (okX4_lead (68, .bipush 8, 2) (List.mem_of_getElem? (i := 35) rfl)) (by decide +kernel) ?_
        refine sk_imul hx hb (okX4_lead (70, .imul, 1) (List.mem_of_getElem? (i := 36) rfl)) ?_
        refine lv_iload hx hb (okX4_lead (71, .iload 8, 2) (List.mem_of_getElem? (i := 37) rfl)) (lv_at hl 8 rfl) ?_
        refine sk_iadd hx hb (okX4_lead (73, .iadd, 1) (List.mem_of_getElem? (i := 38) rfl)) ?_
        refine lv_iload hx hb (okX4_lead (74, .iload 9, 2) (List.mem_of_getElem? (i := 39) rfl)) (lv_at hl 0 rfl) ?_
        obtain ⟨hr2, hM⟩ := hM
        refine sk_cv (sk_runV (a := (v0 + 1)) (C := RX7) (As := [.int (iI ((v6 * 8) + v8)), .int (iI r_57)]) (rest := []) S (c_Row_put l G (k4 hk_v0) hr2 hr_r_57 hM) sk_blind gX4_lead_X7_put rfl hdX7_put ⟨⟨rfl, rfl⟩, Nat.le_of_ble_eq_true rfl, Nat.le_of_ble_eq_true rfl⟩ (sk_recv hK hw (k4 hk_v0) (kd_in (k4 hk_v0)) (by decide) rfl) (sk_pre hK hw) rfl hl.1 rfl (Nat.le_of_ble_eq_true rfl) (okX4_lead (76, .invokevirtual 31, 3) (List.mem_of_getElem? (i := 40) rfl)) ⟨Nat.zero_le _, Nat.zero_le _⟩) hw (fun I_76 H locs hM hw => ?_)
        refine lv_aload_n hx hb (okX4_lead (79, .aload_n 0, 1) (List.mem_of_getElem? (i := 41) rfl)) rfl (lv_at hl 1 rfl) ?_
        refine sk_getr (b := (v0 + 1)) S hK hw hk_v0 (kd_in hk_v0) (C := RX4) (T := TX4) (N := 3) rfl hI4 0 ⟨by decide, rfl, by decide, rfl⟩ rfl (k' := 0) rfl rfl (rf4 hk_v0) hL2 (okX4_lead (80, .getfield 16, 3) (List.mem_of_getElem? (i := 42) rfl)) ?_
        refine lv_iload hx hb (okX4_lead (83, .iload 6, 2) (List.mem_of_getElem? (i := 43) rfl)) (lv_at hl 6 rfl) ?_
        refine lv_bipush (v := iI 8) hx hb (okX4_lead (85, .bipush 8, 2) (List.mem_of_getElem? (i := 44) rfl)) (by decide +kernel) ?_
        refine sk_imul hx hb (okX4_lead (87, .imul, 1) (List.mem_of_getElem? (i := 45) rfl)) ?_
        refine lv_iconst (v := iI 3) hx hb (okX4_lead (88, .iconst 3, 1) (List.mem_of_getElem? (i := 46) rfl)) rfl ?_
        refine sk_iadd hx hb (okX4_lead (89, .iadd, 1) (List.mem_of_getElem? (i := 47) rfl)) ?_
        refine lv_iload hx hb (okX4_lead (90, .iload 8, 2) (List.mem_of_getElem? (i := 48) rfl)) (lv_at hl 8 rfl) ?_
        refine sk_iadd hx hb (okX4_lead (92, .iadd, 1) (List.mem_of_getElem? (i := 49) rfl)) ?_
        refine lv_aload_n hx hb (okX4_lead (93, .aload_n 2, 1) (List.mem_of_getElem? (i := 50) rfl)) rfl (lv_at hl 3 rfl) ?_
        refine lv_iload hx hb (okX4_lead (94, .iload 7, 2) (List.mem_of_getElem? (i := 51) rfl)) (lv_at hl 7 rfl) ?_
        refine lv_iload hx hb (okX4_lead (96, .iload 8, 2) (List.mem_of_getElem? (i := 52) rfl)) (lv_at hl 8 rfl) ?_
        refine sk_ci (sk_runV (a := v2) (C := RX5) (As := [.int (iI v7), .int (iI v8)]) (rest := [.int (iI (((v6 * 8) + 3) + v8)), .ref (sk_ad G (v0 + 1))]) S (c_Places_told l G hk_v2 hr_v7 hr_v8 hM) sk_blind gX4_lead_X5_told rfl hdX5_told ⟨⟨rfl, rfl⟩, Nat.le_of_ble_eq_true rfl, Nat.le_of_ble_eq_true rfl⟩ (sk_recv hK hw hk_v2 (kd_in hk_v2) (by decide) rfl) (sk_pre hK hw) rfl hl.1 rfl (Nat.le_of_ble_eq_true rfl) (okX4_lead (98, .invokevirtual 49, 3) (List.mem_of_getElem? (i := 53) rfl)) ⟨Nat.zero_le _, Nat.zero_le _⟩) hw (fun r_98 I_98 H locs hr_r_98 hM hw => ?_)
        refine lv_iload hx hb (okX4_lead (101, .iload 9, 2) (List.mem_of_getElem? (i := 54) rfl)) (lv_at hl 0 rfl) ?_
        refine sk_isub hx hb (okX4_lead (103, .isub, 1) (List.mem_of_getElem? (i := 55) rfl)) ?_
        obtain ⟨hr3, hM⟩ := hM
        obtain ⟨hr4, hM⟩ := hM
        refine sk_cv (sk_runV (a := (v0 + 1)) (C := RX7) (As := [.int (iI (((v6 * 8) + 3) + v8)), .int (iI (r_98 - r_57))]) (rest := []) S (c_Row_put l G (k4 hk_v0) hr3 hr4 hM) sk_blind gX4_lead_X7_put rfl hdX7_put ⟨⟨rfl, rfl⟩, Nat.le_of_ble_eq_true rfl, Nat.le_of_ble_eq_true rfl⟩ (sk_recv hK hw (k4 hk_v0) (kd_in (k4 hk_v0)) (by decide) rfl) (sk_pre hK hw) rfl hl.1 rfl (Nat.le_of_ble_eq_true rfl) (okX4_lead (104, .invokevirtual 31, 3) (List.mem_of_getElem? (i := 56) rfl)) ⟨Nat.zero_le _, Nat.zero_le _⟩) hw (fun I_104 H locs hM hw => ?_)
        obtain ⟨hr5, hM⟩ := hM
        obtain ⟨v8_107, ev8_107⟩ : ∃ y : Int, y = v8 + 1 := ⟨_, rfl⟩
        have hM := hM v8_107 ev8_107
        have hr_v8_107 : rI v8_107 := by rw [ev8_107]; exact hr5
        refine lv_iinc (v := iI v8_107) (lv' := [(8, .int (iI v8_107)), (9, .int (iI r_57)), (0, .ref (sk_ad G v0)), (1, .ref (sk_ad G v1)), (2, .ref (sk_ad G v2)), (4, .ref (sk_ad G 37)), (5, .int (iI v5)), (6, .int (iI v6)), (7, .int (iI v7))]) hx hb (okX4_lead (107, .iinc 8 1, 3) (List.mem_of_getElem? (i := 57) rfl)) hl (k := 8) rfl (by rw [ev8_107]; exact iI_add _ _) (by decide) rfl (fun ls hl => ?_)
        refine lv_goto (tgt := 46) hx hb (okX4_lead (110, .goto (-64), 3) (List.mem_of_getElem? (i := 58) rfl)) (by decide) ?_
        exact (hX_46 v8_107 I_104).1 hM hr_v8_107 H locs ls hw (lv_sub hl [2, 3, 4, 5, 6, 7, 8, 0] rfl)
    refine (hX_25 v6 I).1 (hM X_25 (fun v6 I hM => (hX_25 v6 I).2 (fun hr_v6 H locs ls hw hl => ?_))) hr_v6 H locs ls hw hl
    refine lv_iload hx hb (okX4_lead (25, .iload 6, 2) (List.mem_of_getElem? (i := 14) rfl)) (lv_at hl 5 rfl) ?_
    refine lv_aload_n hx hb (okX4_lead (27, .aload_n 0, 1) (List.mem_of_getElem? (i := 15) rfl)) rfl (lv_at hl 0 rfl) ?_
    have hr1 := hw.1.2.2 v0 1
    refine sk_geti S hK hw hk_v0 (kd_in hk_v0) (C := RX4) (T := TX4) (N := 3) rfl hI4 1 ⟨by decide, rfl, by decide, rfl⟩ rfl (k' := 1) rfl hL0 (okX4_lead (28, .getfield 20, 3) (List.mem_of_getElem? (i := 16) rfl)) ?_
    refine sk_icmp_ge (tgt := 143) hx hb hr_v6 hr1 (okX4_lead (31, .if_icmp .ge 112, 3) (List.mem_of_getElem? (i := 17) rfl)) (by decide) (fun c31 => ?_) (fun c31 => ?_)
    · have hM := hM.1 c31
      refine lv_iload hx hb (okX4_lead (143, .iload 5, 2) (List.mem_of_getElem? (i := 74) rfl)) (lv_at hl 4 rfl) ?_
      exact sk_iret hx hb hr0 hlocks hK hw hr_v5 hM (okX4_lead (145, .ireturn, 1) (List.mem_of_getElem? (i := 75) rfl))
    · have hM := hM.2 c31
      refine lv_aload hx hb (okX4_lead (34, .aload 4, 2) (List.mem_of_getElem? (i := 18) rfl)) (lv_at hl 3 rfl) ?_
      refine lv_iload hx hb (okX4_lead (36, .iload 6, 2) (List.mem_of_getElem? (i := 19) rfl)) (lv_at hl 5 rfl) ?_
      refine sk_ci (sk_runV (a := 37) (C := RX6) (As := [.int (iI v6)]) (rest := []) S (c_Planner_goal l G hr_v6 hM) sk_blind gX4_lead_X6_goal rfl hdX6_goal ⟨⟨rfl, rfl⟩, Nat.le_of_ble_eq_true rfl, Nat.le_of_ble_eq_true rfl⟩ (sk_recv hK hw kdn_37 (kd_in kdn_37) (by decide) rfl) (sk_pre hK hw) rfl hl.1 rfl (Nat.le_of_ble_eq_true rfl) (okX4_lead (38, .invokevirtual 46, 3) (List.mem_of_getElem? (i := 20) rfl)) ⟨Nat.zero_le _, Nat.zero_le _⟩) hw (fun r_38 I_38 H locs hr_r_38 hM hw => ?_)
      refine lv_istore (lv' := [(7, .int (iI r_38)), (0, .ref (sk_ad G v0)), (1, .ref (sk_ad G v1)), (2, .ref (sk_ad G v2)), (4, .ref (sk_ad G 37)), (5, .int (iI v5)), (6, .int (iI v6))]) hx hb (okX4_lead (41, .istore 7, 2) (List.mem_of_getElem? (i := 21) rfl)) hl (by decide) rfl (fun ls hl => ?_)
      refine lv_iconst (v := iI 0) hx hb (okX4_lead (43, .iconst 0, 1) (List.mem_of_getElem? (i := 22) rfl)) rfl ?_
      refine lv_istore (lv' := [(8, .int (iI 0)), (7, .int (iI r_38)), (0, .ref (sk_ad G v0)), (1, .ref (sk_ad G v1)), (2, .ref (sk_ad G v2)), (4, .ref (sk_ad G 37)), (5, .int (iI v5)), (6, .int (iI v6))]) hx hb (okX4_lead (44, .istore 8, 2) (List.mem_of_getElem? (i := 23) rfl)) hl (by decide) rfl (fun ls hl => ?_)
      exact hJ_46 v6 r_38 0 I_38 hr_v6 hr_r_38 (by decide) hM H locs ls hw (lv_sub hl [2, 3, 4, 5, 6, 7, 1, 0] rfl)
  unfold M_Pass_lead at hM
  intro H locs hw
  refine lv_aload hx hb (okX4_lead (0, .aload 4, 2) (List.mem_of_getElem? (i := 0) rfl)) (lv_at hl 4 rfl) ?_
  refine lv_aload_n hx hb (okX4_lead (2, .aload_n 1, 1) (List.mem_of_getElem? (i := 1) rfl)) rfl (lv_at hl 1 rfl) ?_
  refine lv_aload_n hx hb (okX4_lead (3, .aload_n 2, 1) (List.mem_of_getElem? (i := 2) rfl)) rfl (lv_at hl 2 rfl) ?_
  refine sk_ci (sk_runV (a := 37) (C := RX6) (As := [.ref (sk_ad G p1), .ref (sk_ad G p2)]) (rest := []) S (c_Planner_plan l G hk_p1 hk_p2 hM) sk_blind gX4_lead_X6_plan rfl hdX6_plan ⟨⟨rfl, rfl⟩, Nat.le_of_ble_eq_true rfl, Nat.le_of_ble_eq_true rfl⟩ (sk_recv hK hw kdn_37 (kd_in kdn_37) (by decide) rfl) (sk_pre hK hw) rfl hl.1 rfl (Nat.le_of_ble_eq_true rfl) (okX4_lead (4, .invokevirtual 35, 3) (List.mem_of_getElem? (i := 3) rfl)) ⟨Nat.zero_le _, Nat.zero_le _⟩) hw (fun r_4 I_4 H locs hr_r_4 hM hw => ?_)
  refine lv_istore (lv' := [(5, .int (iI r_4)), (0, .ref (sk_ad G p0)), (1, .ref (sk_ad G p1)), (2, .ref (sk_ad G p2)), (3, .int (iI p3)), (4, .ref (sk_ad G 37))]) hx hb (okX4_lead (7, .istore 5, 2) (List.mem_of_getElem? (i := 4) rfl)) hl (by decide) rfl (fun ls hl => ?_)
  refine lv_aload_n hx hb (okX4_lead (9, .aload_n 0, 1) (List.mem_of_getElem? (i := 5) rfl)) rfl (lv_at hl 1 rfl) ?_
  refine lv_aload_n hx hb (okX4_lead (10, .aload_n 1, 1) (List.mem_of_getElem? (i := 6) rfl)) rfl (lv_at hl 2 rfl) ?_
  refine sk_ci (sk_runV (a := p1) (C := RX5) (As := []) (rest := [.ref (sk_ad G p0)]) S (c_Places_size l G hk_p1 hM) sk_blind gX4_lead_X5_size rfl hdX5_size ⟨⟨rfl, rfl⟩, Nat.le_of_ble_eq_true rfl, Nat.le_of_ble_eq_true rfl⟩ (sk_recv hK hw hk_p1 (kd_in hk_p1) (by decide) rfl) (sk_pre hK hw) rfl hl.1 rfl (Nat.le_of_ble_eq_true rfl) (okX4_lead (11, .invokevirtual 41, 3) (List.mem_of_getElem? (i := 7) rfl)) ⟨Nat.zero_le _, Nat.zero_le _⟩) hw (fun r_11 I_11 H locs hr_r_11 hM hw => ?_)
  refine sk_put S hK hw hk_p0 (kd_in hk_p0) (C := RX4) (T := TX4) (N := 3) rfl hI4 tyX4 tyX4_ok nmX4 1 ⟨by decide, rfl, by decide, rfl⟩ rfl rfl (k' := 1) rfl hr_r_11 ⟨rfl, rfl⟩ hL0 (okX4_lead (14, .putfield 20, 3) (List.mem_of_getElem? (i := 8) rfl)) (fun H locs hw => ?_)
  refine lv_aload_n hx hb (okX4_lead (17, .aload_n 0, 1) (List.mem_of_getElem? (i := 9) rfl)) rfl (lv_at hl 1 rfl) ?_
  refine lv_iload_n hx hb (okX4_lead (18, .iload_n 3, 1) (List.mem_of_getElem? (i := 10) rfl)) rfl (lv_at hl 4 rfl) ?_
  refine sk_put S hK hw hk_p0 (kd_in hk_p0) (C := RX4) (T := TX4) (N := 3) rfl hI4 tyX4 tyX4_ok nmX4 2 ⟨by decide, rfl, by decide, rfl⟩ rfl rfl (k' := 2) rfl hr_p3 ⟨rfl, rfl⟩ hL1 (okX4_lead (19, .putfield 24, 3) (List.mem_of_getElem? (i := 11) rfl)) (fun H locs hw => ?_)
  refine lv_iconst (v := iI 0) hx hb (okX4_lead (22, .iconst 0, 1) (List.mem_of_getElem? (i := 12) rfl)) rfl ?_
  refine lv_istore (lv' := [(6, .int (iI 0)), (5, .int (iI r_4)), (0, .ref (sk_ad G p0)), (1, .ref (sk_ad G p1)), (2, .ref (sk_ad G p2)), (3, .int (iI p3)), (4, .ref (sk_ad G 37))]) hx hb (okX4_lead (23, .istore 6, 2) (List.mem_of_getElem? (i := 13) rfl)) hl (by decide) rfl (fun ls hl => ?_)
  exact hJ_25 p0 p1 p2 r_4 0 (up (up I_11 p0 1 r_11) p0 2 p3) hk_p0 hk_p1 hk_p2 hr_r_4 (by decide) hM H locs ls hw (lv_sub hl [2, 3, 4, 6, 1, 0] rfl)
def rmX4_ticks : Room := { frames := 0, cells := 0, slots := 0, locals := 0 }
set_option maxHeartbeats 4000000 in
set_option maxRecDepth 100000 in
theorem c_Pass_ticks (l : Launch) (G : sk_G) {p0 : Int} (hk_p0 : kd p0 = 4) {Q : Int → sk_S → Prop} {I : sk_S} (hM : M_Pass_ticks p0 Q I) : Met l yX4_ticks wsX4_ticks rmX4_ticks (va_Pc [.ref (sk_ad G p0)] (sk_U G 198 sk_t I)) (sk_Qi G 198 sk_t Q) 0 0 (sk_A G) := by
  refine Met.ofW (cc := cX4_ticks) (maxL := 1) (ret := (some .int)) (by decide) rfl ?_
  intro p e s m args below meth c s₁ B hml hv
  obtain ⟨rfl, hU, hK⟩ := hv
  have hx := B.exec
  have hb := B.bytes
  have hr0 := B.returns
  have hts := atoms_spec (ws := wsX4_ticks) B.pre
  have hown : s.vm.findClass RX4 = some m.cls := findClass_of_methodNamed B.named
  have hlocks := B.notSynchronized
  have S : CallFix p m c cX4_ticks 1 s ([.ref (sk_ad G p0)].toArray) wsX4_ticks RX4 := ⟨hx, hb, hml, hown, hts⟩
  have hL0 := hts (.fieldLink RX4 24 "SkyLights$Pass" "ticks" "I") (by decide +kernel)
  have hI4 : ∀ w ∈ u_ws RX4 TX4 3, w ∈ wsX4_ticks := by decide +kernel
  have hw : sk_W G 198 sk_t I s s.heap [] := ⟨hU, va_S.rf⟩
  have hl := lv_entry ([.ref (sk_ad G p0)]) (n := 1) (Nat.le_of_ble_eq_true rfl)
  rw [lg_entry_eq]
  generalize (lg_sl ([.ref (sk_ad G p0)]) ++ List.replicate (1 - (lg_sl ([.ref (sk_ad G p0)])).length) Slot.unset).toArray = ls at hl ⊢
  have hl : lv_has ls 1 [(0, .ref (sk_ad G p0))] := hl
  suffices hgo : ∀ (H : Heap) (locs : List Loc), sk_W G 198 sk_t I s H locs → W p l e (headSpec wsX4_ticks rmX4_ticks).room s m ([.ref (sk_ad G p0)].toArray) below meth c H locs 0 0 (MQ below (sk_Qi G 198 sk_t Q) ([.ref (sk_ad G p0)].toArray) s 0 0 (sk_A G)) (F0 m 0 ls []) from hgo _ _ hw
  unfold M_Pass_ticks at hM
  intro H locs hw
  refine lv_aload_n hx hb (okX4_ticks (0, .aload_n 0, 1) (List.mem_of_getElem? (i := 0) rfl)) rfl (lv_at hl 0 rfl) ?_
  have hr1 := hw.1.2.2 p0 2
  refine sk_geti S hK hw hk_p0 (kd_in hk_p0) (C := RX4) (T := TX4) (N := 3) rfl hI4 2 ⟨by decide, rfl, by decide, rfl⟩ rfl (k' := 2) rfl hL0 (okX4_ticks (1, .getfield 24, 3) (List.mem_of_getElem? (i := 1) rfl)) ?_
  exact sk_iret hx hb hr0 hlocks hK hw hr1 hM (okX4_ticks (4, .ireturn, 1) (List.mem_of_getElem? (i := 2) rfl))
def rmX5_add : Room := { frames := 1, cells := 0, slots := 0, locals := 54 }
set_option maxHeartbeats 4000000 in
set_option maxRecDepth 100000 in
theorem c_Places_add (l : Launch) (G : sk_G) {p0 p1 p2 p3 p4 : Int} (hk_p0 : kd p0 = 5) (hr_p1 : rI p1) (hr_p2 : rI p2) (hr_p3 : rI p3) (hr_p4 : rI p4) {Q : sk_S → Prop} {I : sk_S} (hM : M_Places_add p0 p1 p2 p3 p4 Q I) : Met l yX5_add wsX5_add rmX5_add (va_Pc [.ref (sk_ad G p0), .int (iI p1), .int (iI p2), .int (iI p3), .int (iI p4)] (sk_U G 198 sk_t I)) (sk_Qv G 198 sk_t Q) 0 0 (sk_A G) := by
  refine Met.ofW (cc := cX5_add) (maxL := 5) (ret := none) (by decide) rfl ?_
  intro p e s m args below meth c s₁ B hml hv
  obtain ⟨rfl, hU, hK⟩ := hv
  have hx := B.exec
  have hb := B.bytes
  have hr0 := B.returns
  have hts := atoms_spec (ws := wsX5_add) B.pre
  have hown : s.vm.findClass RX5 = some m.cls := findClass_of_methodNamed B.named
  have hlocks := B.notSynchronized
  have S : CallFix p m c cX5_add 5 s ([.ref (sk_ad G p0), .int (iI p1), .int (iI p2), .int (iI p3), .int (iI p4)].toArray) wsX5_add RX5 := ⟨hx, hb, hml, hown, hts⟩
  have hL0 := hts (.fieldLink RX5 20 "SkyLights$Places" "size" "I") (by decide +kernel)
  have hL1 := hts (.fieldLink RX5 16 "SkyLights$Places" "cells" "LSkyLights$Row;") (by decide +kernel)
  have hI5 : ∀ w ∈ u_ws RX5 TX5 2, w ∈ wsX5_add := by decide +kernel
  have hw : sk_W G 198 sk_t I s s.heap [] := ⟨hU, va_S.rf⟩
  have hl := lv_entry ([.ref (sk_ad G p0), .int (iI p1), .int (iI p2), .int (iI p3), .int (iI p4)]) (n := 5) (Nat.le_of_ble_eq_true rfl)
  rw [lg_entry_eq]
  generalize (lg_sl ([.ref (sk_ad G p0), .int (iI p1), .int (iI p2), .int (iI p3), .int (iI p4)]) ++ List.replicate (5 - (lg_sl ([.ref (sk_ad G p0), .int (iI p1), .int (iI p2), .int (iI p3), .int (iI p4)])).length) Slot.unset).toArray = ls at hl ⊢
  have hl : lv_has ls 5 [(0, .ref (sk_ad G p0)), (1, .int (iI p1)), (2, .int (iI p2)), (3, .int (iI p3)), (4, .int (iI p4))] := hl
  suffices hgo : ∀ (H : Heap) (locs : List Loc), sk_W G 198 sk_t I s H locs → W p l e (headSpec wsX5_add rmX5_add).room s m ([.ref (sk_ad G p0), .int (iI p1), .int (iI p2), .int (iI p3), .int (iI p4)].toArray) below meth c H locs 0 0 (MQ below (sk_Qv G 198 sk_t Q) ([.ref (sk_ad G p0), .int (iI p1), .int (iI p2), .int (iI p3), .int (iI p4)].toArray) s 0 0 (sk_A G)) (F0 m 0 ls []) from hgo _ _ hw
  unfold M_Places_add at hM
  intro H locs hw
  refine lv_aload_n hx hb (okX5_add (0, .aload_n 0, 1) (List.mem_of_getElem? (i := 0) rfl)) rfl (lv_at hl 0 rfl) ?_
  have hr1 := hw.1.2.2 p0 1
  refine sk_geti S hK hw hk_p0 (kd_in hk_p0) (C := RX5) (T := TX5) (N := 2) rfl hI5 1 ⟨by decide, rfl, by decide, rfl⟩ rfl (k' := 1) rfl hL0 (okX5_add (1, .getfield 20, 3) (List.mem_of_getElem? (i := 1) rfl)) ?_
  refine lv_bipush (v := iI 10) hx hb (okX5_add (4, .bipush 10, 2) (List.mem_of_getElem? (i := 2) rfl)) (by decide +kernel) ?_
  refine sk_icmp_ge (tgt := 84) hx hb hr1 (by decide) (okX5_add (6, .if_icmp .ge 78, 3) (List.mem_of_getElem? (i := 3) rfl)) (by decide) (fun c6 => ?_) (fun c6 => ?_)
  · have hM := hM.1 c6
    exact sk_vret hx hb hr0 hlocks hK hw hM (okX5_add (84, .return_, 1) (List.mem_of_getElem? (i := 50) rfl))
  · have hM := hM.2 c6
    refine lv_aload_n hx hb (okX5_add (9, .aload_n 0, 1) (List.mem_of_getElem? (i := 4) rfl)) rfl (lv_at hl 0 rfl) ?_
    refine sk_getr (b := (p0 + 1)) S hK hw hk_p0 (kd_in hk_p0) (C := RX5) (T := TX5) (N := 2) rfl hI5 0 ⟨by decide, rfl, by decide, rfl⟩ rfl (k' := 0) rfl rfl (rf5 hk_p0) hL1 (okX5_add (10, .getfield 16, 3) (List.mem_of_getElem? (i := 5) rfl)) ?_
    refine lv_aload_n hx hb (okX5_add (13, .aload_n 0, 1) (List.mem_of_getElem? (i := 6) rfl)) rfl (lv_at hl 0 rfl) ?_
    have hr2 := hw.1.2.2 p0 1
    refine sk_geti S hK hw hk_p0 (kd_in hk_p0) (C := RX5) (T := TX5) (N := 2) rfl hI5 1 ⟨by decide, rfl, by decide, rfl⟩ rfl (k' := 1) rfl hL0 (okX5_add (14, .getfield 20, 3) (List.mem_of_getElem? (i := 7) rfl)) ?_
    refine lv_iconst (v := iI 4) hx hb (okX5_add (17, .iconst 4, 1) (List.mem_of_getElem? (i := 8) rfl)) rfl ?_
    refine sk_imul hx hb (okX5_add (18, .imul, 1) (List.mem_of_getElem? (i := 9) rfl)) ?_
    refine lv_iconst (v := iI 0) hx hb (okX5_add (19, .iconst 0, 1) (List.mem_of_getElem? (i := 10) rfl)) rfl ?_
    refine sk_iadd hx hb (okX5_add (20, .iadd, 1) (List.mem_of_getElem? (i := 11) rfl)) ?_
    refine lv_iload_n hx hb (okX5_add (21, .iload_n 1, 1) (List.mem_of_getElem? (i := 12) rfl)) rfl (lv_at hl 1 rfl) ?_
    obtain ⟨hr3, hM⟩ := hM
    refine sk_cv (sk_runV (a := (p0 + 1)) (C := RX7) (As := [.int (iI (((I p0 1) * 4) + 0)), .int (iI p1)]) (rest := []) S (c_Row_put l G (k5 hk_p0) hr3 hr_p1 hM) sk_blind gX5_add_X7_put rfl hdX7_put ⟨⟨rfl, rfl⟩, Nat.le_of_ble_eq_true rfl, Nat.le_of_ble_eq_true rfl⟩ (sk_recv hK hw (k5 hk_p0) (kd_in (k5 hk_p0)) (by decide) rfl) (sk_pre hK hw) rfl hl.1 rfl (Nat.le_of_ble_eq_true rfl) (okX5_add (22, .invokevirtual 24, 3) (List.mem_of_getElem? (i := 13) rfl)) ⟨Nat.zero_le _, Nat.zero_le _⟩) hw (fun I_22 H locs hM hw => ?_)
    refine lv_aload_n hx hb (okX5_add (25, .aload_n 0, 1) (List.mem_of_getElem? (i := 14) rfl)) rfl (lv_at hl 0 rfl) ?_
    refine sk_getr (b := (p0 + 1)) S hK hw hk_p0 (kd_in hk_p0) (C := RX5) (T := TX5) (N := 2) rfl hI5 0 ⟨by decide, rfl, by decide, rfl⟩ rfl (k' := 0) rfl rfl (rf5 hk_p0) hL1 (okX5_add (26, .getfield 16, 3) (List.mem_of_getElem? (i := 15) rfl)) ?_
    refine lv_aload_n hx hb (okX5_add (29, .aload_n 0, 1) (List.mem_of_getElem? (i := 16) rfl)) rfl (lv_at hl 0 rfl) ?_
    have hr4 := hw.1.2.2 p0 1
    refine sk_geti S hK hw hk_p0 (kd_in hk_p0) (C := RX5) (T := TX5) (N := 2) rfl hI5 1 ⟨by decide, rfl, by decide, rfl⟩ rfl (k' := 1) rfl hL0 (okX5_add (30, .getfield 20, 3) (List.mem_of_getElem? (i := 17) rfl)) ?_
    refine lv_iconst (v := iI 4) hx hb (okX5_add (33, .iconst 4, 1) (List.mem_of_getElem? (i := 18) rfl)) rfl ?_
    refine sk_imul hx hb (okX5_add (34, .imul, 1) (List.mem_of_getElem? (i := 19) rfl)) ?_
    refine lv_iconst (v := iI 1) hx hb (okX5_add (35, .iconst 1, 1) (List.mem_of_getElem? (i := 20) rfl)) rfl ?_
    refine sk_iadd hx hb (okX5_add (36, .iadd, 1) (List.mem_of_getElem? (i := 21) rfl)) ?_
    refine lv_iload_n hx hb (okX5_add (37, .iload_n 2, 1) (List.mem_of_getElem? (i := 22) rfl)) rfl (lv_at hl 2 rfl) ?_
    obtain ⟨hr5, hM⟩ := hM
    refine sk_cv (sk_runV (a := (p0 + 1)) (C := RX7) (As := [.int (iI (((I_22 p0 1) * 4) + 1)), .int (iI p2)]) (rest := []) S (c_Row_put l G (k5 hk_p0) hr5 hr_p2 hM) sk_blind gX5_add_X7_put rfl hdX7_put ⟨⟨rfl, rfl⟩, Nat.le_of_ble_eq_true rfl, Nat.le_of_ble_eq_true rfl⟩ (sk_recv hK hw (k5 hk_p0) (kd_in (k5 hk_p0)) (by decide) rfl) (sk_pre hK hw) rfl hl.1 rfl (Nat.le_of_ble_eq_true rfl) (okX5_add (38, .invokevirtual 24, 3) (List.mem_of_getElem? (i := 23) rfl)) ⟨Nat.zero_le _, Nat.zero_le _⟩) hw (fun I_38 H locs hM hw => ?_)
    refine lv_aload_n hx hb (okX5_add (41, .aload_n 0, 1) (List.mem_of_getElem? (i := 24) rfl)) rfl (lv_at hl 0 rfl) ?_
    refine sk_getr (b := (p0 + 1)) S hK hw hk_p0 (kd_in hk_p0) (C := RX5) (T := TX5) (N := 2) rfl hI5 0 ⟨by decide, rfl, by decide, rfl⟩ rfl (k' := 0) rfl rfl (rf5 hk_p0) hL1 (okX5_add (42, .getfield 16, 3) (List.mem_of_getElem? (i := 25) rfl)) ?_
    refine lv_aload_n hx hb (okX5_add (45, .aload_n 0, 1) (List.mem_of_getElem? (i := 26) rfl)) rfl (lv_at hl 0 rfl) ?_
    have hr6 := hw.1.2.2 p0 1
    refine sk_geti S hK hw hk_p0 (kd_in hk_p0) (C := RX5) (T := TX5) (N := 2) rfl hI5 1 ⟨by decide, rfl, by decide, rfl⟩ rfl (k' := 1) rfl hL0 (okX5_add (46, .getfield 20, 3) (List.mem_of_getElem? (i := 27) rfl)) ?_
    refine lv_iconst (v := iI 4) hx hb (okX5_add (49, .iconst 4, 1) (List.mem_of_getElem? (i := 28) rfl)) rfl ?_
    refine sk_imul hx hb (okX5_add (50, .imul, 1) (List.mem_of_getElem? (i := 29) rfl)) ?_
    refine lv_iconst (v := iI 2) hx hb (okX5_add (51, .iconst 2, 1) (List.mem_of_getElem? (i := 30) rfl)) rfl ?_
    refine sk_iadd hx hb (okX5_add (52, .iadd, 1) (List.mem_of_getElem? (i := 31) rfl)) ?_
    refine lv_iload_n hx hb (okX5_add (53, .iload_n 3, 1) (List.mem_of_getElem? (i := 32) rfl)) rfl (lv_at hl 3 rfl) ?_
    obtain ⟨hr7, hM⟩ := hM
    refine sk_cv (sk_runV (a := (p0 + 1)) (C := RX7) (As := [.int (iI (((I_38 p0 1) * 4) + 2)), .int (iI p3)]) (rest := []) S (c_Row_put l G (k5 hk_p0) hr7 hr_p3 hM) sk_blind gX5_add_X7_put rfl hdX7_put ⟨⟨rfl, rfl⟩, Nat.le_of_ble_eq_true rfl, Nat.le_of_ble_eq_true rfl⟩ (sk_recv hK hw (k5 hk_p0) (kd_in (k5 hk_p0)) (by decide) rfl) (sk_pre hK hw) rfl hl.1 rfl (Nat.le_of_ble_eq_true rfl) (okX5_add (54, .invokevirtual 24, 3) (List.mem_of_getElem? (i := 33) rfl)) ⟨Nat.zero_le _, Nat.zero_le _⟩) hw (fun I_54 H locs hM hw => ?_)
    refine lv_aload_n hx hb (okX5_add (57, .aload_n 0, 1) (List.mem_of_getElem? (i := 34) rfl)) rfl (lv_at hl 0 rfl) ?_
    refine sk_getr (b := (p0 + 1)) S hK hw hk_p0 (kd_in hk_p0) (C := RX5) (T := TX5) (N := 2) rfl hI5 0 ⟨by decide, rfl, by decide, rfl⟩ rfl (k' := 0) rfl rfl (rf5 hk_p0) hL1 (okX5_add (58, .getfield 16, 3) (List.mem_of_getElem? (i := 35) rfl)) ?_
    refine lv_aload_n hx hb (okX5_add (61, .aload_n 0, 1) (List.mem_of_getElem? (i := 36) rfl)) rfl (lv_at hl 0 rfl) ?_
    have hr8 := hw.1.2.2 p0 1
    refine sk_geti S hK hw hk_p0 (kd_in hk_p0) (C := RX5) (T := TX5) (N := 2) rfl hI5 1 ⟨by decide, rfl, by decide, rfl⟩ rfl (k' := 1) rfl hL0 (okX5_add (62, .getfield 20, 3) (List.mem_of_getElem? (i := 37) rfl)) ?_
    refine lv_iconst (v := iI 4) hx hb (okX5_add (65, .iconst 4, 1) (List.mem_of_getElem? (i := 38) rfl)) rfl ?_
    refine sk_imul hx hb (okX5_add (66, .imul, 1) (List.mem_of_getElem? (i := 39) rfl)) ?_
    refine lv_iconst (v := iI 3) hx hb (okX5_add (67, .iconst 3, 1) (List.mem_of_getElem? (i := 40) rfl)) rfl ?_
    refine sk_iadd hx hb (okX5_add (68, .iadd, 1) (List.mem_of_getElem? (i := 41) rfl)) ?_
    refine lv_iload hx hb (okX5_add (69, .iload 4, 2) (List.mem_of_getElem? (i := 42) rfl)) (lv_at hl 4 rfl) ?_
    obtain ⟨hr9, hM⟩ := hM
    refine sk_cv (sk_runV (a := (p0 + 1)) (C := RX7) (As := [.int (iI (((I_54 p0 1) * 4) + 3)), .int (iI p4)]) (rest := []) S (c_Row_put l G (k5 hk_p0) hr9 hr_p4 hM) sk_blind gX5_add_X7_put rfl hdX7_put ⟨⟨rfl, rfl⟩, Nat.le_of_ble_eq_true rfl, Nat.le_of_ble_eq_true rfl⟩ (sk_recv hK hw (k5 hk_p0) (kd_in (k5 hk_p0)) (by decide) rfl) (sk_pre hK hw) rfl hl.1 rfl (Nat.le_of_ble_eq_true rfl) (okX5_add (71, .invokevirtual 24, 3) (List.mem_of_getElem? (i := 43) rfl)) ⟨Nat.zero_le _, Nat.zero_le _⟩) hw (fun I_71 H locs hM hw => ?_)
    refine lv_aload_n hx hb (okX5_add (74, .aload_n 0, 1) (List.mem_of_getElem? (i := 44) rfl)) rfl (lv_at hl 0 rfl) ?_
    refine lv_dup hx hb (okX5_add (75, .dup, 1) (List.mem_of_getElem? (i := 45) rfl)) rfl ?_
    have hr10 := hw.1.2.2 p0 1
    refine sk_geti S hK hw hk_p0 (kd_in hk_p0) (C := RX5) (T := TX5) (N := 2) rfl hI5 1 ⟨by decide, rfl, by decide, rfl⟩ rfl (k' := 1) rfl hL0 (okX5_add (76, .getfield 20, 3) (List.mem_of_getElem? (i := 46) rfl)) ?_
    refine lv_iconst (v := iI 1) hx hb (okX5_add (79, .iconst 1, 1) (List.mem_of_getElem? (i := 47) rfl)) rfl ?_
    refine sk_iadd hx hb (okX5_add (80, .iadd, 1) (List.mem_of_getElem? (i := 48) rfl)) ?_
    obtain ⟨hr11, hM⟩ := hM
    refine sk_put S hK hw hk_p0 (kd_in hk_p0) (C := RX5) (T := TX5) (N := 2) rfl hI5 tyX5 tyX5_ok nmX5 1 ⟨by decide, rfl, by decide, rfl⟩ rfl rfl (k' := 1) rfl hr11 ⟨rfl, rfl⟩ hL0 (okX5_add (81, .putfield 20, 3) (List.mem_of_getElem? (i := 49) rfl)) (fun H locs hw => ?_)
    exact sk_vret hx hb hr0 hlocks hK hw hM (okX5_add (84, .return_, 1) (List.mem_of_getElem? (i := 50) rfl))
def rmX5_empty : Room := { frames := 0, cells := 0, slots := 0, locals := 0 }
set_option maxHeartbeats 4000000 in
set_option maxRecDepth 100000 in
theorem c_Places_empty (l : Launch) (G : sk_G) {p0 : Int} (hk_p0 : kd p0 = 5) {Q : sk_S → Prop} {I : sk_S} (hM : M_Places_empty p0 Q I) : Met l yX5_empty wsX5_empty rmX5_empty (va_Pc [.ref (sk_ad G p0)] (sk_U G 198 sk_t I)) (sk_Qv G 198 sk_t Q) 0 0 (sk_A G) := by
  refine Met.ofW (cc := cX5_empty) (maxL := 1) (ret := none) (by decide) rfl ?_
  intro p e s m args below meth c s₁ B hml hv
  obtain ⟨rfl, hU, hK⟩ := hv
  have hx := B.exec
  have hb := B.bytes
  have hr0 := B.returns
  have hts := atoms_spec (ws := wsX5_empty) B.pre
  have hown : s.vm.findClass RX5 = some m.cls := findClass_of_methodNamed B.named
  have hlocks := B.notSynchronized
  have S : CallFix p m c cX5_empty 1 s ([.ref (sk_ad G p0)].toArray) wsX5_empty RX5 := ⟨hx, hb, hml, hown, hts⟩
  have hL0 := hts (.fieldLink RX5 20 "SkyLights$Places" "size" "I") (by decide +kernel)
  have hI5 : ∀ w ∈ u_ws RX5 TX5 2, w ∈ wsX5_empty := by decide +kernel
  have hw : sk_W G 198 sk_t I s s.heap [] := ⟨hU, va_S.rf⟩
  have hl := lv_entry ([.ref (sk_ad G p0)]) (n := 1) (Nat.le_of_ble_eq_true rfl)
  rw [lg_entry_eq]
  generalize (lg_sl ([.ref (sk_ad G p0)]) ++ List.replicate (1 - (lg_sl ([.ref (sk_ad G p0)])).length) Slot.unset).toArray = ls at hl ⊢
  have hl : lv_has ls 1 [(0, .ref (sk_ad G p0))] := hl
  suffices hgo : ∀ (H : Heap) (locs : List Loc), sk_W G 198 sk_t I s H locs → W p l e (headSpec wsX5_empty rmX5_empty).room s m ([.ref (sk_ad G p0)].toArray) below meth c H locs 0 0 (MQ below (sk_Qv G 198 sk_t Q) ([.ref (sk_ad G p0)].toArray) s 0 0 (sk_A G)) (F0 m 0 ls []) from hgo _ _ hw
  unfold M_Places_empty at hM
  intro H locs hw
  refine lv_aload_n hx hb (okX5_empty (0, .aload_n 0, 1) (List.mem_of_getElem? (i := 0) rfl)) rfl (lv_at hl 0 rfl) ?_
  refine lv_iconst (v := iI 0) hx hb (okX5_empty (1, .iconst 0, 1) (List.mem_of_getElem? (i := 1) rfl)) rfl ?_
  refine sk_put S hK hw hk_p0 (kd_in hk_p0) (C := RX5) (T := TX5) (N := 2) rfl hI5 tyX5 tyX5_ok nmX5 1 ⟨by decide, rfl, by decide, rfl⟩ rfl rfl (k' := 1) rfl (by decide) ⟨rfl, rfl⟩ hL0 (okX5_empty (2, .putfield 20, 3) (List.mem_of_getElem? (i := 2) rfl)) (fun H locs hw => ?_)
  exact sk_vret hx hb hr0 hlocks hK hw hM (okX5_empty (5, .return_, 1) (List.mem_of_getElem? (i := 3) rfl))
def rmX5_has : Room := { frames := 0, cells := 0, slots := 0, locals := 0 }
set_option maxHeartbeats 4000000 in
set_option maxRecDepth 100000 in
theorem c_Places_has (l : Launch) (G : sk_G) {p0 p1 : Int} (hk_p0 : kd p0 = 5) (hr_p1 : rI p1) {Q : Int → sk_S → Prop} {I : sk_S} (hM : M_Places_has p0 p1 Q I) : Met l yX5_has wsX5_has rmX5_has (va_Pc [.ref (sk_ad G p0), .int (iI p1)] (sk_U G 198 sk_t I)) (sk_Qz G 198 sk_t Q) 0 0 (sk_A G) := by
  refine Met.ofW (cc := cX5_has) (maxL := 2) (ret := (some .boolean)) (by decide) rfl ?_
  intro p e s m args below meth c s₁ B hml hv
  obtain ⟨rfl, hU, hK⟩ := hv
  have hx := B.exec
  have hb := B.bytes
  have hr0 := B.returns
  have hts := atoms_spec (ws := wsX5_has) B.pre
  have hown : s.vm.findClass RX5 = some m.cls := findClass_of_methodNamed B.named
  have hlocks := B.notSynchronized
  have S : CallFix p m c cX5_has 2 s ([.ref (sk_ad G p0), .int (iI p1)].toArray) wsX5_has RX5 := ⟨hx, hb, hml, hown, hts⟩
  have hL0 := hts (.fieldLink RX5 20 "SkyLights$Places" "size" "I") (by decide +kernel)
  have hI5 : ∀ w ∈ u_ws RX5 TX5 2, w ∈ wsX5_has := by decide +kernel
  have hw : sk_W G 198 sk_t I s s.heap [] := ⟨hU, va_S.rf⟩
  have hl := lv_entry ([.ref (sk_ad G p0), .int (iI p1)]) (n := 2) (Nat.le_of_ble_eq_true rfl)
  rw [lg_entry_eq]
  generalize (lg_sl ([.ref (sk_ad G p0), .int (iI p1)]) ++ List.replicate (2 - (lg_sl ([.ref (sk_ad G p0), .int (iI p1)])).length) Slot.unset).toArray = ls at hl ⊢
  have hl : lv_has ls 2 [(0, .ref (sk_ad G p0)), (1, .int (iI p1))] := hl
  suffices hgo : ∀ (H : Heap) (locs : List Loc), sk_W G 198 sk_t I s H locs → W p l e (headSpec wsX5_has rmX5_has).room s m ([.ref (sk_ad G p0), .int (iI p1)].toArray) below meth c H locs 0 0 (MQ below (sk_Qz G 198 sk_t Q) ([.ref (sk_ad G p0), .int (iI p1)].toArray) s 0 0 (sk_A G)) (F0 m 0 ls []) from hgo _ _ hw
  unfold M_Places_has at hM
  intro H locs hw
  refine lv_iload_n hx hb (okX5_has (0, .iload_n 1, 1) (List.mem_of_getElem? (i := 0) rfl)) rfl (lv_at hl 1 rfl) ?_
  refine sk_if_lt (tgt := 16) hx hb hr_p1 (okX5_has (1, .ifCond .lt 15, 3) (List.mem_of_getElem? (i := 1) rfl)) (by decide) (fun c1 => ?_) (fun c1 => ?_)
  · have hM := hM.1 c1
    refine lv_iconst (v := iI 0) hx hb (okX5_has (16, .iconst 0, 1) (List.mem_of_getElem? (i := 8) rfl)) rfl ?_
    exact sk_zret hx hb hr0 hlocks hK hw (Or.inl rfl) hM (okX5_has (17, .ireturn, 1) (List.mem_of_getElem? (i := 9) rfl))
  · have hM := hM.2 c1
    refine lv_iload_n hx hb (okX5_has (4, .iload_n 1, 1) (List.mem_of_getElem? (i := 2) rfl)) rfl (lv_at hl 1 rfl) ?_
    refine lv_aload_n hx hb (okX5_has (5, .aload_n 0, 1) (List.mem_of_getElem? (i := 3) rfl)) rfl (lv_at hl 0 rfl) ?_
    have hr1 := hw.1.2.2 p0 1
    refine sk_geti S hK hw hk_p0 (kd_in hk_p0) (C := RX5) (T := TX5) (N := 2) rfl hI5 1 ⟨by decide, rfl, by decide, rfl⟩ rfl (k' := 1) rfl hL0 (okX5_has (6, .getfield 20, 3) (List.mem_of_getElem? (i := 4) rfl)) ?_
    refine sk_icmp_ge (tgt := 16) hx hb hr_p1 hr1 (okX5_has (9, .if_icmp .ge 7, 3) (List.mem_of_getElem? (i := 5) rfl)) (by decide) (fun c9 => ?_) (fun c9 => ?_)
    · have hM := hM.1 c9
      refine lv_iconst (v := iI 0) hx hb (okX5_has (16, .iconst 0, 1) (List.mem_of_getElem? (i := 8) rfl)) rfl ?_
      exact sk_zret hx hb hr0 hlocks hK hw (Or.inl rfl) hM (okX5_has (17, .ireturn, 1) (List.mem_of_getElem? (i := 9) rfl))
    · have hM := hM.2 c9
      refine lv_iconst (v := iI 1) hx hb (okX5_has (12, .iconst 1, 1) (List.mem_of_getElem? (i := 6) rfl)) rfl ?_
      refine lv_goto (tgt := 17) hx hb (okX5_has (13, .goto 4, 3) (List.mem_of_getElem? (i := 7) rfl)) (by decide) ?_
      exact sk_zret hx hb hr0 hlocks hK hw (Or.inr rfl) hM (okX5_has (17, .ireturn, 1) (List.mem_of_getElem? (i := 9) rfl))
def rmX8_ticks : Room := { frames := 1, cells := 0, slots := 0, locals := 52 }
set_option maxHeartbeats 4000000 in
set_option maxRecDepth 100000 in
theorem c_Scene_ticks (l : Launch) (G : sk_G) {p0 : Int} (hk_p0 : kd p0 = 8) {Q : Int → sk_S → Prop} {I : sk_S} (hM : M_Scene_ticks p0 Q I) : Met l yX8_ticks wsX8_ticks rmX8_ticks (va_Pc [.ref (sk_ad G p0)] (sk_U G 198 sk_t I)) (sk_Qi G 198 sk_t Q) 0 0 (sk_A G) := by
  refine Met.ofW (cc := cX8_ticks) (maxL := 1) (ret := (some .int)) (by decide) rfl ?_
  intro p e s m args below meth c s₁ B hml hv
  obtain ⟨rfl, hU, hK⟩ := hv
  have hx := B.exec
  have hb := B.bytes
  have hr0 := B.returns
  have hts := atoms_spec (ws := wsX8_ticks) B.pre
  have hown : s.vm.findClass RX8 = some m.cls := findClass_of_methodNamed B.named
  have hlocks := B.notSynchronized
  have S : CallFix p m c cX8_ticks 1 s ([.ref (sk_ad G p0)].toArray) wsX8_ticks RX8 := ⟨hx, hb, hml, hown, hts⟩
  have hL0 := hts (.fieldLink RX8 10 "SkyLights$Scene" "way" "LSkyLights$Pass;") (by decide +kernel)
  have hL1 := hts (.fieldLink RX8 23 "SkyLights$Scene" "hold" "I") (by decide +kernel)
  have hI8 : ∀ w ∈ u_ws RX8 TX8 5, w ∈ wsX8_ticks := by decide +kernel
  have hw : sk_W G 198 sk_t I s s.heap [] := ⟨hU, va_S.rf⟩
  have hl := lv_entry ([.ref (sk_ad G p0)]) (n := 1) (Nat.le_of_ble_eq_true rfl)
  rw [lg_entry_eq]
  generalize (lg_sl ([.ref (sk_ad G p0)]) ++ List.replicate (1 - (lg_sl ([.ref (sk_ad G p0)])).length) Slot.unset).toArray = ls at hl ⊢
  have hl : lv_has ls 1 [(0, .ref (sk_ad G p0))] := hl
  suffices hgo : ∀ (H : Heap) (locs : List Loc), sk_W G 198 sk_t I s H locs → W p l e (headSpec wsX8_ticks rmX8_ticks).room s m ([.ref (sk_ad G p0)].toArray) below meth c H locs 0 0 (MQ below (sk_Qi G 198 sk_t Q) ([.ref (sk_ad G p0)].toArray) s 0 0 (sk_A G)) (F0 m 0 ls []) from hgo _ _ hw
  unfold M_Scene_ticks at hM
  intro H locs hw
  refine lv_aload_n hx hb (okX8_ticks (0, .aload_n 0, 1) (List.mem_of_getElem? (i := 0) rfl)) rfl (lv_at hl 0 rfl) ?_
  refine sk_getr (b := (p0 + 1)) S hK hw hk_p0 (kd_in hk_p0) (C := RX8) (T := TX8) (N := 5) rfl hI8 0 ⟨by decide, rfl, by decide, rfl⟩ rfl (k' := 0) rfl rfl (rf80 hk_p0) hL0 (okX8_ticks (1, .getfield 10, 3) (List.mem_of_getElem? (i := 1) rfl)) ?_
  refine sk_ci (sk_runV (a := (p0 + 1)) (C := RX4) (As := []) (rest := []) S (c_Pass_ticks l G (k8 hk_p0).1 hM) sk_blind gX8_ticks_X4_ticks rfl hdX4_ticks ⟨⟨rfl, rfl⟩, Nat.le_of_ble_eq_true rfl, Nat.le_of_ble_eq_true rfl⟩ (sk_recv hK hw (k8 hk_p0).1 (kd_in (k8 hk_p0).1) (by decide) rfl) (sk_pre hK hw) rfl hl.1 rfl (Nat.le_of_ble_eq_true rfl) (okX8_ticks (4, .invokevirtual 29, 3) (List.mem_of_getElem? (i := 2) rfl)) ⟨Nat.zero_le _, Nat.zero_le _⟩) hw (fun r_4 I_4 H locs hr_r_4 hM hw => ?_)
  refine lv_aload_n hx hb (okX8_ticks (7, .aload_n 0, 1) (List.mem_of_getElem? (i := 3) rfl)) rfl (lv_at hl 0 rfl) ?_
  have hr1 := hw.1.2.2 p0 3
  refine sk_geti S hK hw hk_p0 (kd_in hk_p0) (C := RX8) (T := TX8) (N := 5) rfl hI8 3 ⟨by decide, rfl, by decide, rfl⟩ rfl (k' := 3) rfl hL1 (okX8_ticks (8, .getfield 23, 3) (List.mem_of_getElem? (i := 4) rfl)) ?_
  refine sk_iadd hx hb (okX8_ticks (11, .iadd, 1) (List.mem_of_getElem? (i := 5) rfl)) ?_
  obtain ⟨hr2, hM⟩ := hM
  exact sk_iret hx hb hr0 hlocks hK hw hr2 hM (okX8_ticks (12, .ireturn, 1) (List.mem_of_getElem? (i := 6) rfl))
def rmX9_at : Room := { frames := 0, cells := 0, slots := 0, locals := 0 }
set_option maxHeartbeats 4000000 in
set_option maxRecDepth 100000 in
theorem c_Show_at (l : Launch) (G : sk_G) {p1 : Int} (hr_p1 : rI p1) {Q : Int → sk_S → Prop} {I : sk_S} (hM : M_Show_at p1 Q I) : Met l yX9_at wsX9_at rmX9_at (va_Pc [.ref (sk_ad G 54), .int (iI p1)] (sk_U G 198 sk_t I)) (sk_Qr G 198 sk_t 8 Q) 0 0 (sk_A G) := by
  refine Met.ofW (cc := cX9_at) (maxL := 2) (ret := (some (.object "SkyLights$Scene"))) (by decide) rfl ?_
  intro p e s m args below meth c s₁ B hml hv
  obtain ⟨rfl, hU, hK⟩ := hv
  have hx := B.exec
  have hb := B.bytes
  have hr0 := B.returns
  have hts := atoms_spec (ws := wsX9_at) B.pre
  have hown : s.vm.findClass RX9 = some m.cls := findClass_of_methodNamed B.named
  have hlocks := B.notSynchronized
  have S : CallFix p m c cX9_at 2 s ([.ref (sk_ad G 54), .int (iI p1)].toArray) wsX9_at RX9 := ⟨hx, hb, hml, hown, hts⟩
  have hL0 := hts (.fieldLink RX9 18 "SkyLights$Show" "nothing" "LSkyLights$Scene;") (by decide +kernel)
  have hL1 := hts (.fieldLink RX9 11 "SkyLights$Show" "scenes" "[LSkyLights$Scene;") (by decide +kernel)
  have hI9 : ∀ w ∈ u_ws RX9 TX9 5, w ∈ wsX9_at := by decide +kernel
  have hw : sk_W G 198 sk_t I s s.heap [] := ⟨hU, va_S.rf⟩
  have hl := lv_entry ([.ref (sk_ad G 54), .int (iI p1)]) (n := 2) (Nat.le_of_ble_eq_true rfl)
  rw [lg_entry_eq]
  generalize (lg_sl ([.ref (sk_ad G 54), .int (iI p1)]) ++ List.replicate (2 - (lg_sl ([.ref (sk_ad G 54), .int (iI p1)])).length) Slot.unset).toArray = ls at hl ⊢
  have hl : lv_has ls 2 [(0, .ref (sk_ad G 54)), (1, .int (iI p1))] := hl
  suffices hgo : ∀ (H : Heap) (locs : List Loc), sk_W G 198 sk_t I s H locs → W p l e (headSpec wsX9_at rmX9_at).room s m ([.ref (sk_ad G 54), .int (iI p1)].toArray) below meth c H locs 0 0 (MQ below (sk_Qr G 198 sk_t 8 Q) ([.ref (sk_ad G 54), .int (iI p1)].toArray) s 0 0 (sk_A G)) (F0 m 0 ls []) from hgo _ _ hw
  unfold M_Show_at at hM
  intro H locs hw
  refine lv_iload_n hx hb (okX9_at (0, .iload_n 1, 1) (List.mem_of_getElem? (i := 0) rfl)) rfl (lv_at hl 1 rfl) ?_
  refine sk_if_lt (tgt := 22) hx hb hr_p1 (okX9_at (1, .ifCond .lt 21, 3) (List.mem_of_getElem? (i := 1) rfl)) (by decide) (fun c1 => ?_) (fun c1 => ?_)
  · have hM := hM.1 c1
    refine lv_aload_n hx hb (okX9_at (22, .aload_n 0, 1) (List.mem_of_getElem? (i := 12) rfl)) rfl (lv_at hl 0 rfl) ?_
    refine sk_getr (b := 56) S hK hw kdn_54 (kd_in kdn_54) (C := RX9) (T := TX9) (N := 5) rfl hI9 1 ⟨by decide, rfl, by decide, rfl⟩ rfl (k' := 1) rfl rfl (by decide +kernel) hL0 (okX9_at (23, .getfield 18, 3) (List.mem_of_getElem? (i := 13) rfl)) ?_
    exact sk_aret hx hb hr0 ⟨_, rfl⟩ hlocks hK hw kdn_56 hM (okX9_at (26, .areturn, 1) (List.mem_of_getElem? (i := 14) rfl))
  · have hM := hM.2 c1
    refine lv_iload_n hx hb (okX9_at (4, .iload_n 1, 1) (List.mem_of_getElem? (i := 2) rfl)) rfl (lv_at hl 1 rfl) ?_
    refine lv_aload_n hx hb (okX9_at (5, .aload_n 0, 1) (List.mem_of_getElem? (i := 3) rfl)) rfl (lv_at hl 0 rfl) ?_
    refine sk_getr (b := 55) S hK hw kdn_54 (kd_in kdn_54) (C := RX9) (T := TX9) (N := 5) rfl hI9 0 ⟨by decide, rfl, by decide, rfl⟩ rfl (k' := 0) rfl rfl (by decide +kernel) hL1 (okX9_at (6, .getfield 11, 3) (List.mem_of_getElem? (i := 4) rfl)) ?_
    refine sk_len S hK hw (Or.inr (Or.inr kdn_55)) (kd_in kdn_55) (okX9_at (9, .arraylength, 1) (List.mem_of_getElem? (i := 5) rfl)) ?_
    rw [lnn_55]
    refine sk_icmp_ge (tgt := 22) hx hb hr_p1 (by decide) (okX9_at (10, .if_icmp .ge 12, 3) (List.mem_of_getElem? (i := 6) rfl)) (by decide) (fun c10 => ?_) (fun c10 => ?_)
    · have hM := hM.1 c10
      refine lv_aload_n hx hb (okX9_at (22, .aload_n 0, 1) (List.mem_of_getElem? (i := 12) rfl)) rfl (lv_at hl 0 rfl) ?_
      refine sk_getr (b := 56) S hK hw kdn_54 (kd_in kdn_54) (C := RX9) (T := TX9) (N := 5) rfl hI9 1 ⟨by decide, rfl, by decide, rfl⟩ rfl (k' := 1) rfl rfl (by decide +kernel) hL0 (okX9_at (23, .getfield 18, 3) (List.mem_of_getElem? (i := 13) rfl)) ?_
      exact sk_aret hx hb hr0 ⟨_, rfl⟩ hlocks hK hw kdn_56 hM (okX9_at (26, .areturn, 1) (List.mem_of_getElem? (i := 14) rfl))
    · have hM := hM.2 c10
      refine lv_aload_n hx hb (okX9_at (13, .aload_n 0, 1) (List.mem_of_getElem? (i := 7) rfl)) rfl (lv_at hl 0 rfl) ?_
      refine sk_getr (b := 55) S hK hw kdn_54 (kd_in kdn_54) (C := RX9) (T := TX9) (N := 5) rfl hI9 0 ⟨by decide, rfl, by decide, rfl⟩ rfl (k' := 0) rfl rfl (by decide +kernel) hL1 (okX9_at (14, .getfield 11, 3) (List.mem_of_getElem? (i := 8) rfl)) ?_
      refine lv_iload_n hx hb (okX9_at (17, .iload_n 1, 1) (List.mem_of_getElem? (i := 9) rfl)) rfl (lv_at hl 1 rfl) ?_
      obtain ⟨hi1, hM⟩ := hM
      refine sk_ald S hK hw (Or.inr kdn_55) (kd_in kdn_55) (by rw [lnn_55]; exact hi1) rfl rf15 (okX9_at (18, .aaload, 1) (List.mem_of_getElem? (i := 10) rfl)) ?_
      refine lv_goto (tgt := 26) hx hb (okX9_at (19, .goto 7, 3) (List.mem_of_getElem? (i := 11) rfl)) (by decide) ?_
      exact sk_aret hx hb hr0 ⟨_, rfl⟩ hlocks hK hw (kd_scn hi1) hM (okX9_at (26, .areturn, 1) (List.mem_of_getElem? (i := 14) rfl))
def rmX9_chargeLeft : Room := { frames := 2, cells := 0, slots := 0, locals := 107 }
set_option maxHeartbeats 4000000 in
set_option maxRecDepth 100000 in
theorem c_Show_chargeLeft (l : Launch) (G : sk_G) {p1 : Int} (hr_p1 : rI p1) {Q : Int → sk_S → Prop} {I : sk_S} (hM : M_Show_chargeLeft p1 Q I) : Met l yX9_chargeLeft wsX9_chargeLeft rmX9_chargeLeft (va_Pc [.ref (sk_ad G 54), .int (iI p1)] (sk_U G 198 sk_t I)) (sk_Qi G 198 sk_t Q) 0 0 (sk_A G) := by
  refine Met.ofW (cc := cX9_chargeLeft) (maxL := 5) (ret := (some .int)) (by decide) rfl ?_
  intro p e s m args below meth c s₁ B hml hv
  obtain ⟨rfl, hU, hK⟩ := hv
  have hx := B.exec
  have hb := B.bytes
  have hr0 := B.returns
  have hts := atoms_spec (ws := wsX9_chargeLeft) B.pre
  have hown : s.vm.findClass RX9 = some m.cls := findClass_of_methodNamed B.named
  have hlocks := B.notSynchronized
  have S : CallFix p m c cX9_chargeLeft 5 s ([.ref (sk_ad G 54), .int (iI p1)].toArray) wsX9_chargeLeft RX9 := ⟨hx, hb, hml, hown, hts⟩
  have hL0 := hts (.fieldLink RX9 27 "SkyLights$Show" "charges" "LSkyLights$Row;") (by decide +kernel)
  have hL1 := hts (.fieldLink RX9 31 "SkyLights$Show" "size" "I") (by decide +kernel)
  have hI8 : ∀ w ∈ u_ws RX8 TX8 5, w ∈ wsX9_chargeLeft := by decide +kernel
  have hI9 : ∀ w ∈ u_ws RX9 TX9 5, w ∈ wsX9_chargeLeft := by decide +kernel
  have hw : sk_W G 198 sk_t I s s.heap [] := ⟨hU, va_S.rf⟩
  have hl := lv_entry ([.ref (sk_ad G 54), .int (iI p1)]) (n := 5) (Nat.le_of_ble_eq_true rfl)
  rw [lg_entry_eq]
  generalize (lg_sl ([.ref (sk_ad G 54), .int (iI p1)]) ++ List.replicate (5 - (lg_sl ([.ref (sk_ad G 54), .int (iI p1)])).length) Slot.unset).toArray = ls at hl ⊢
  have hl : lv_has ls 5 [(0, .ref (sk_ad G 54)), (1, .int (iI p1))] := hl
  suffices hgo : ∀ (H : Heap) (locs : List Loc), sk_W G 198 sk_t I s H locs → W p l e (headSpec wsX9_chargeLeft rmX9_chargeLeft).room s m ([.ref (sk_ad G 54), .int (iI p1)].toArray) below meth c H locs 0 0 (MQ below (sk_Qi G 198 sk_t Q) ([.ref (sk_ad G 54), .int (iI p1)].toArray) s 0 0 (sk_A G)) (F0 m 0 ls []) from hgo _ _ hw
  have hJ_71 : ∀ (v2 v3 : Int) (I : sk_S), rI v2 → rI v3 → J_Show_chargeLeft_71 v2 v3 Q I → ∀ (H : Heap) (locs : List Loc) (ls : Array Slot), sk_W G 198 sk_t I s H locs → lv_has ls 5 [(0, .ref (sk_ad G 54)), (2, .int (iI v2)), (3, .int (iI v3))] → W p l e (headSpec wsX9_chargeLeft rmX9_chargeLeft).room s m ([.ref (sk_ad G 54), .int (iI p1)].toArray) below meth c H locs 0 0 (MQ below (sk_Qi G 198 sk_t Q) ([.ref (sk_ad G 54), .int (iI p1)].toArray) s 0 0 (sk_A G)) (F0 m 71 ls []) := by
    intro v2 v3 I hr_v2 hr_v3 hM H locs ls hw hl
    unfold J_Show_chargeLeft_71 at hM
    refine lv_aload_n hx hb (okX9_chargeLeft (71, .aload_n 0, 1) (List.mem_of_getElem? (i := 38) rfl)) rfl (lv_at hl 0 rfl) ?_
    have hr5 := hw.1.2.2 54 3
    refine sk_geti S hK hw kdn_54 (kd_in kdn_54) (C := RX9) (T := TX9) (N := 5) rfl hI9 3 ⟨by decide, rfl, by decide, rfl⟩ rfl (k' := 3) rfl hL1 (okX9_chargeLeft (72, .getfield 31, 3) (List.mem_of_getElem? (i := 39) rfl)) ?_
    refine sk_if_le (tgt := 100) hx hb hr5 (okX9_chargeLeft (75, .ifCond .le 25, 3) (List.mem_of_getElem? (i := 40) rfl)) (by decide) (fun c75 => ?_) (fun c75 => ?_)
    · have hM := hM.1 c75
      refine lv_iload_n hx hb (okX9_chargeLeft (100, .iload_n 2, 1) (List.mem_of_getElem? (i := 53) rfl)) rfl (lv_at hl 1 rfl) ?_
      exact sk_iret hx hb hr0 hlocks hK hw hr_v2 hM (okX9_chargeLeft (101, .ireturn, 1) (List.mem_of_getElem? (i := 54) rfl))
    · have hM := hM.2 c75
      refine lv_iload_n hx hb (okX9_chargeLeft (78, .iload_n 2, 1) (List.mem_of_getElem? (i := 41) rfl)) rfl (lv_at hl 1 rfl) ?_
      refine lv_aload_n hx hb (okX9_chargeLeft (79, .aload_n 0, 1) (List.mem_of_getElem? (i := 42) rfl)) rfl (lv_at hl 0 rfl) ?_
      refine lv_aload_n hx hb (okX9_chargeLeft (80, .aload_n 0, 1) (List.mem_of_getElem? (i := 43) rfl)) rfl (lv_at hl 0 rfl) ?_
      have hr6 := hw.1.2.2 54 3
      refine sk_geti S hK hw kdn_54 (kd_in kdn_54) (C := RX9) (T := TX9) (N := 5) rfl hI9 3 ⟨by decide, rfl, by decide, rfl⟩ rfl (k' := 3) rfl hL1 (okX9_chargeLeft (81, .getfield 31, 3) (List.mem_of_getElem? (i := 44) rfl)) ?_
      refine lv_iconst (v := iI 1) hx hb (okX9_chargeLeft (84, .iconst 1, 1) (List.mem_of_getElem? (i := 45) rfl)) rfl ?_
      refine sk_isub hx hb (okX9_chargeLeft (85, .isub, 1) (List.mem_of_getElem? (i := 46) rfl)) ?_
      obtain ⟨hr7, hM⟩ := hM
      refine sk_cr (sk_runV (a := 54) (C := RX9) (As := [.int (iI ((I 54 3) - 1))]) (rest := [.int (iI v2)]) S (c_Show_at l G hr7 hM) sk_blind gX9_chargeLeft_X9_at rfl hdX9_at ⟨⟨rfl, rfl⟩, Nat.le_of_ble_eq_true rfl, Nat.le_of_ble_eq_true rfl⟩ (sk_recv hK hw kdn_54 (kd_in kdn_54) (by decide) rfl) (sk_pre hK hw) rfl hl.1 rfl (Nat.le_of_ble_eq_true rfl) (okX9_chargeLeft (86, .invokevirtual 38, 3) (List.mem_of_getElem? (i := 47) rfl)) ⟨Nat.zero_le _, Nat.zero_le _⟩) hw (fun r_86 I_86 H locs hk_r_86 hM hw => ?_)
      refine sk_getrN (b := (r_86 + 4)) S hK hw hk_r_86 (kd_in hk_r_86) (C := RX8) (T := TX8) (N := 5) rfl hI8 1 ⟨by decide, rfl, by decide, rfl⟩ rfl (k' := 1) rfl rfl (rf81 hk_r_86) (va_Nw.use rfl (hK.2.1 ("SkyLights$Show", 59, "SkyLights$Scene", "home", "LSkyLights$Pass;") (by decide +kernel))) (okX9_chargeLeft (89, .getfield 59, 3) (List.mem_of_getElem? (i := 48) rfl)) ?_
      refine lv_iload_n hx hb (okX9_chargeLeft (92, .iload_n 3, 1) (List.mem_of_getElem? (i := 49) rfl)) rfl (lv_at hl 2 rfl) ?_
      refine sk_ci (sk_runV (a := (r_86 + 4)) (C := RX4) (As := [.int (iI v3)]) (rest := [.int (iI v2)]) S (c_Pass_charge l G (k8 hk_r_86).2 hr_v3 hM) sk_blind gX9_chargeLeft_X4_charge rfl hdX4_charge ⟨⟨rfl, rfl⟩, Nat.le_of_ble_eq_true rfl, Nat.le_of_ble_eq_true rfl⟩ (sk_recv hK hw (k8 hk_r_86).2 (kd_in (k8 hk_r_86).2) (by decide) rfl) (sk_pre hK hw) rfl hl.1 rfl (Nat.le_of_ble_eq_true rfl) (okX9_chargeLeft (93, .invokevirtual 73, 3) (List.mem_of_getElem? (i := 50) rfl)) ⟨Nat.zero_le _, Nat.zero_le _⟩) hw (fun r_93 I_93 H locs hr_r_93 hM hw => ?_)
      refine sk_isub hx hb (okX9_chargeLeft (96, .isub, 1) (List.mem_of_getElem? (i := 51) rfl)) ?_
      refine lv_goto (tgt := 101) hx hb (okX9_chargeLeft (97, .goto 4, 3) (List.mem_of_getElem? (i := 52) rfl)) (by decide) ?_
      obtain ⟨hr8, hM⟩ := hM
      exact sk_iret hx hb hr0 hlocks hK hw hr8 hM (okX9_chargeLeft (101, .ireturn, 1) (List.mem_of_getElem? (i := 54) rfl))
  have hJ_14 : ∀ (v2 v3 v4 : Int) (I : sk_S), rI v2 → rI v3 → rI v4 → L_Show_chargeLeft_14 Q v2 v3 v4 I → ∀ (H : Heap) (locs : List Loc) (ls : Array Slot), sk_W G 198 sk_t I s H locs → lv_has ls 5 [(0, .ref (sk_ad G 54)), (2, .int (iI v2)), (3, .int (iI v3)), (4, .int (iI v4))] → W p l e (headSpec wsX9_chargeLeft rmX9_chargeLeft).room s m ([.ref (sk_ad G 54), .int (iI p1)].toArray) below meth c H locs 0 0 (MQ below (sk_Qi G 198 sk_t Q) ([.ref (sk_ad G 54), .int (iI p1)].toArray) s 0 0 (sk_A G)) (F0 m 14 ls []) := by
    intro v2 v3 v4 I hr_v2 hr_v3 hr_v4 hM H locs ls hw hl
    unfold L_Show_chargeLeft_14 at hM
    obtain ⟨X_14, hX_14⟩ : ∃ X : Int → Int → Int → sk_S → Prop, ∀ (v2 v3 v4 : Int) (I : sk_S), X v2 v3 v4 I ↔ (rI v2 → rI v3 → rI v4 → ∀ (H : Heap) (locs : List Loc) (ls : Array Slot), sk_W G 198 sk_t I s H locs → lv_has ls 5 [(0, .ref (sk_ad G 54)), (2, .int (iI v2)), (3, .int (iI v3)), (4, .int (iI v4))] → W p l e (headSpec wsX9_chargeLeft rmX9_chargeLeft).room s m ([.ref (sk_ad G 54), .int (iI p1)].toArray) below meth c H locs 0 0 (MQ below (sk_Qi G 198 sk_t Q) ([.ref (sk_ad G 54), .int (iI p1)].toArray) s 0 0 (sk_A G)) (F0 m 14 ls [])) := ⟨_, fun _ _ _ _ => Iff.rfl⟩
    refine (hX_14 v2 v3 v4 I).1 (hM X_14 (fun v2 v3 v4 I hM => (hX_14 v2 v3 v4 I).2 (fun hr_v2 hr_v3 hr_v4 H locs ls hw hl => ?_))) hr_v2 hr_v3 hr_v4 H locs ls hw hl
    refine lv_iload hx hb (okX9_chargeLeft (14, .iload 4, 2) (List.mem_of_getElem? (i := 9) rfl)) (lv_at hl 3 rfl) ?_
    refine lv_aload_n hx hb (okX9_chargeLeft (16, .aload_n 0, 1) (List.mem_of_getElem? (i := 10) rfl)) rfl (lv_at hl 0 rfl) ?_
    have hr1 := hw.1.2.2 54 3
    refine sk_geti S hK hw kdn_54 (kd_in kdn_54) (C := RX9) (T := TX9) (N := 5) rfl hI9 3 ⟨by decide, rfl, by decide, rfl⟩ rfl (k' := 3) rfl hL1 (okX9_chargeLeft (17, .getfield 31, 3) (List.mem_of_getElem? (i := 11) rfl)) ?_
    refine sk_icmp_ge (tgt := 71) hx hb hr_v4 hr1 (okX9_chargeLeft (20, .if_icmp .ge 51, 3) (List.mem_of_getElem? (i := 12) rfl)) (by decide) (fun c20 => ?_) (fun c20 => ?_)
    · have hM := hM.1 c20
      exact hJ_71 v2 v3 I hr_v2 hr_v3 hM H locs ls hw (lv_sub hl [0, 1, 2] rfl)
    · have hM := hM.2 c20
      refine lv_iload_n hx hb (okX9_chargeLeft (23, .iload_n 2, 1) (List.mem_of_getElem? (i := 13) rfl)) rfl (lv_at hl 1 rfl) ?_
      refine lv_aload_n hx hb (okX9_chargeLeft (24, .aload_n 0, 1) (List.mem_of_getElem? (i := 14) rfl)) rfl (lv_at hl 0 rfl) ?_
      refine lv_iload hx hb (okX9_chargeLeft (25, .iload 4, 2) (List.mem_of_getElem? (i := 15) rfl)) (lv_at hl 3 rfl) ?_
      refine sk_cr (sk_runV (a := 54) (C := RX9) (As := [.int (iI v4)]) (rest := [.int (iI v2)]) S (c_Show_at l G hr_v4 hM) sk_blind gX9_chargeLeft_X9_at rfl hdX9_at ⟨⟨rfl, rfl⟩, Nat.le_of_ble_eq_true rfl, Nat.le_of_ble_eq_true rfl⟩ (sk_recv hK hw kdn_54 (kd_in kdn_54) (by decide) rfl) (sk_pre hK hw) rfl hl.1 rfl (Nat.le_of_ble_eq_true rfl) (okX9_chargeLeft (27, .invokevirtual 38, 3) (List.mem_of_getElem? (i := 16) rfl)) ⟨Nat.zero_le _, Nat.zero_le _⟩) hw (fun r_27 I_27 H locs hk_r_27 hM hw => ?_)
      refine sk_getrN (b := (r_27 + 1)) S hK hw hk_r_27 (kd_in hk_r_27) (C := RX8) (T := TX8) (N := 5) rfl hI8 0 ⟨by decide, rfl, by decide, rfl⟩ rfl (k' := 0) rfl rfl (rf80 hk_r_27) (va_Nw.use rfl (hK.2.1 ("SkyLights$Show", 49, "SkyLights$Scene", "way", "LSkyLights$Pass;") (by decide +kernel))) (okX9_chargeLeft (30, .getfield 49, 3) (List.mem_of_getElem? (i := 17) rfl)) ?_
      refine lv_iload_n hx hb (okX9_chargeLeft (33, .iload_n 3, 1) (List.mem_of_getElem? (i := 18) rfl)) rfl (lv_at hl 2 rfl) ?_
      refine sk_ci (sk_runV (a := (r_27 + 1)) (C := RX4) (As := [.int (iI v3)]) (rest := [.int (iI v2)]) S (c_Pass_charge l G (k8 hk_r_27).1 hr_v3 hM) sk_blind gX9_chargeLeft_X4_charge rfl hdX4_charge ⟨⟨rfl, rfl⟩, Nat.le_of_ble_eq_true rfl, Nat.le_of_ble_eq_true rfl⟩ (sk_recv hK hw (k8 hk_r_27).1 (kd_in (k8 hk_r_27).1) (by decide) rfl) (sk_pre hK hw) rfl hl.1 rfl (Nat.le_of_ble_eq_true rfl) (okX9_chargeLeft (34, .invokevirtual 73, 3) (List.mem_of_getElem? (i := 19) rfl)) ⟨Nat.zero_le _, Nat.zero_le _⟩) hw (fun r_34 I_34 H locs hr_r_34 hM hw => ?_)
      refine lv_iconst (v := iI 2) hx hb (okX9_chargeLeft (37, .iconst 2, 1) (List.mem_of_getElem? (i := 20) rfl)) rfl ?_
      refine lv_aload_n hx hb (okX9_chargeLeft (38, .aload_n 0, 1) (List.mem_of_getElem? (i := 21) rfl)) rfl (lv_at hl 0 rfl) ?_
      refine lv_iload hx hb (okX9_chargeLeft (39, .iload 4, 2) (List.mem_of_getElem? (i := 22) rfl)) (lv_at hl 3 rfl) ?_
      refine sk_cr (sk_runV (a := 54) (C := RX9) (As := [.int (iI v4)]) (rest := [.int (iI 2), .int (iI r_34), .int (iI v2)]) S (c_Show_at l G hr_v4 hM) sk_blind gX9_chargeLeft_X9_at rfl hdX9_at ⟨⟨rfl, rfl⟩, Nat.le_of_ble_eq_true rfl, Nat.le_of_ble_eq_true rfl⟩ (sk_recv hK hw kdn_54 (kd_in kdn_54) (by decide) rfl) (sk_pre hK hw) rfl hl.1 rfl (Nat.le_of_ble_eq_true rfl) (okX9_chargeLeft (41, .invokevirtual 38, 3) (List.mem_of_getElem? (i := 23) rfl)) ⟨Nat.zero_le _, Nat.zero_le _⟩) hw (fun r_41 I_41 H locs hk_r_41 hM hw => ?_)
      have hr2 := hw.1.2.2 r_41 3
      refine sk_getiN S hK hw hk_r_41 (kd_in hk_r_41) (C := RX8) (T := TX8) (N := 5) rfl hI8 3 ⟨by decide, rfl, by decide, rfl⟩ rfl (k' := 3) rfl (va_Nw.use rfl (hK.2.1 ("SkyLights$Show", 76, "SkyLights$Scene", "hold", "I") (by decide +kernel))) (okX9_chargeLeft (44, .getfield 76, 3) (List.mem_of_getElem? (i := 24) rfl)) ?_
      refine sk_imul hx hb (okX9_chargeLeft (47, .imul, 1) (List.mem_of_getElem? (i := 25) rfl)) ?_
      refine sk_iadd hx hb (okX9_chargeLeft (48, .iadd, 1) (List.mem_of_getElem? (i := 26) rfl)) ?_
      refine sk_isub hx hb (okX9_chargeLeft (49, .isub, 1) (List.mem_of_getElem? (i := 27) rfl)) ?_
      obtain ⟨hr3, hM⟩ := hM
      refine sk_nm (fun v2_50 ev2_50 => ?_)
      have hM := hM v2_50 ev2_50
      have hr_v2_50 : rI v2_50 := by rw [ev2_50]; exact hr3
      refine lv_istore_n (lv' := [(2, .int (iI v2_50)), (0, .ref (sk_ad G 54)), (3, .int (iI v3)), (4, .int (iI v4))]) hx hb (okX9_chargeLeft (50, .istore_n 2, 1) (List.mem_of_getElem? (i := 28) rfl)) rfl hl (by decide) rfl (fun ls hl => ?_)
      refine lv_aload_n hx hb (okX9_chargeLeft (51, .aload_n 0, 1) (List.mem_of_getElem? (i := 29) rfl)) rfl (lv_at hl 1 rfl) ?_
      refine lv_iload hx hb (okX9_chargeLeft (52, .iload 4, 2) (List.mem_of_getElem? (i := 30) rfl)) (lv_at hl 3 rfl) ?_
      refine sk_cr (sk_runV (a := 54) (C := RX9) (As := [.int (iI v4)]) (rest := []) S (c_Show_at l G hr_v4 hM) sk_blind gX9_chargeLeft_X9_at rfl hdX9_at ⟨⟨rfl, rfl⟩, Nat.le_of_ble_eq_true rfl, Nat.le_of_ble_eq_true rfl⟩ (sk_recv hK hw kdn_54 (kd_in kdn_54) (by decide) rfl) (sk_pre hK hw) rfl hl.1 rfl (Nat.le_of_ble_eq_true rfl) (okX9_chargeLeft (54, .invokevirtual 38, 3) (List.mem_of_getElem? (i := 31) rfl)) ⟨Nat.zero_le _, Nat.zero_le _⟩) hw (fun r_54 I_54 H locs hk_r_54 hM hw => ?_)
      refine sk_getrN (b := (r_54 + 1)) S hK hw hk_r_54 (kd_in hk_r_54) (C := RX8) (T := TX8) (N := 5) rfl hI8 0 ⟨by decide, rfl, by decide, rfl⟩ rfl (k' := 0) rfl rfl (rf80 hk_r_54) (va_Nw.use rfl (hK.2.1 ("SkyLights$Show", 49, "SkyLights$Scene", "way", "LSkyLights$Pass;") (by decide +kernel))) (okX9_chargeLeft (57, .getfield 49, 3) (List.mem_of_getElem? (i := 32) rfl)) ?_
      refine lv_iload_n hx hb (okX9_chargeLeft (60, .iload_n 3, 1) (List.mem_of_getElem? (i := 33) rfl)) rfl (lv_at hl 2 rfl) ?_
      refine sk_ci (sk_runV (a := (r_54 + 1)) (C := RX4) (As := [.int (iI v3)]) (rest := []) S (c_Pass_goal l G (k8 hk_r_54).1 hr_v3 hM) sk_blind gX9_chargeLeft_X4_goal rfl hdX4_goal ⟨⟨rfl, rfl⟩, Nat.le_of_ble_eq_true rfl, Nat.le_of_ble_eq_true rfl⟩ (sk_recv hK hw (k8 hk_r_54).1 (kd_in (k8 hk_r_54).1) (by decide) rfl) (sk_pre hK hw) rfl hl.1 rfl (Nat.le_of_ble_eq_true rfl) (okX9_chargeLeft (61, .invokevirtual 53, 3) (List.mem_of_getElem? (i := 34) rfl)) ⟨Nat.zero_le _, Nat.zero_le _⟩) hw (fun r_61 I_61 H locs hr_r_61 hM hw => ?_)
      refine lv_istore_n (lv' := [(3, .int (iI r_61)), (2, .int (iI v2_50)), (0, .ref (sk_ad G 54)), (4, .int (iI v4))]) hx hb (okX9_chargeLeft (64, .istore_n 3, 1) (List.mem_of_getElem? (i := 35) rfl)) rfl hl (by decide) rfl (fun ls hl => ?_)
      obtain ⟨hr4, hM⟩ := hM
      obtain ⟨v4_65, ev4_65⟩ : ∃ y : Int, y = v4 + 1 := ⟨_, rfl⟩
      have hM := hM v4_65 ev4_65
      have hr_v4_65 : rI v4_65 := by rw [ev4_65]; exact hr4
      refine lv_iinc (v := iI v4_65) (lv' := [(4, .int (iI v4_65)), (3, .int (iI r_61)), (2, .int (iI v2_50)), (0, .ref (sk_ad G 54))]) hx hb (okX9_chargeLeft (65, .iinc 4 1, 3) (List.mem_of_getElem? (i := 36) rfl)) hl (k := 3) rfl (by rw [ev4_65]; exact iI_add _ _) (by decide) rfl (fun ls hl => ?_)
      refine lv_goto (tgt := 14) hx hb (okX9_chargeLeft (68, .goto (-54), 3) (List.mem_of_getElem? (i := 37) rfl)) (by decide) ?_
      exact (hX_14 v2_50 r_61 v4_65 I_61).1 hM hr_v2_50 hr_r_61 hr_v4_65 H locs ls hw (lv_sub hl [3, 2, 1, 0] rfl)
  unfold M_Show_chargeLeft at hM
  intro H locs hw
  refine lv_aload_n hx hb (okX9_chargeLeft (0, .aload_n 0, 1) (List.mem_of_getElem? (i := 0) rfl)) rfl (lv_at hl 0 rfl) ?_
  refine sk_getr (b := 63) S hK hw kdn_54 (kd_in kdn_54) (C := RX9) (T := TX9) (N := 5) rfl hI9 2 ⟨by decide, rfl, by decide, rfl⟩ rfl (k' := 2) rfl rfl (by decide +kernel) hL0 (okX9_chargeLeft (1, .getfield 27, 3) (List.mem_of_getElem? (i := 1) rfl)) ?_
  refine lv_iload_n hx hb (okX9_chargeLeft (4, .iload_n 1, 1) (List.mem_of_getElem? (i := 2) rfl)) rfl (lv_at hl 1 rfl) ?_
  refine sk_ci (sk_runV (a := 63) (C := RX7) (As := [.int (iI p1)]) (rest := []) S (c_Row_at l G kdn_63 hr_p1 hM) sk_blind gX9_chargeLeft_X7_at rfl hdX7_at ⟨⟨rfl, rfl⟩, Nat.le_of_ble_eq_true rfl, Nat.le_of_ble_eq_true rfl⟩ (sk_recv hK hw kdn_63 (kd_in kdn_63) (by decide) rfl) (sk_pre hK hw) rfl hl.1 rfl (Nat.le_of_ble_eq_true rfl) (okX9_chargeLeft (5, .invokevirtual 71, 3) (List.mem_of_getElem? (i := 3) rfl)) ⟨Nat.zero_le _, Nat.zero_le _⟩) hw (fun r_5 I_5 H locs hr_r_5 hM hw => ?_)
  refine lv_istore_n (lv' := [(2, .int (iI r_5)), (0, .ref (sk_ad G 54)), (1, .int (iI p1))]) hx hb (okX9_chargeLeft (8, .istore_n 2, 1) (List.mem_of_getElem? (i := 4) rfl)) rfl hl (by decide) rfl (fun ls hl => ?_)
  refine lv_iload_n hx hb (okX9_chargeLeft (9, .iload_n 1, 1) (List.mem_of_getElem? (i := 5) rfl)) rfl (lv_at hl 2 rfl) ?_
  refine lv_istore_n (lv' := [(3, .int (iI p1)), (2, .int (iI r_5)), (0, .ref (sk_ad G 54)), (1, .int (iI p1))]) hx hb (okX9_chargeLeft (10, .istore_n 3, 1) (List.mem_of_getElem? (i := 6) rfl)) rfl hl (by decide) rfl (fun ls hl => ?_)
  refine lv_iconst (v := iI 0) hx hb (okX9_chargeLeft (11, .iconst 0, 1) (List.mem_of_getElem? (i := 7) rfl)) rfl ?_
  refine lv_istore (lv' := [(4, .int (iI 0)), (3, .int (iI p1)), (2, .int (iI r_5)), (0, .ref (sk_ad G 54)), (1, .int (iI p1))]) hx hb (okX9_chargeLeft (12, .istore 4, 2) (List.mem_of_getElem? (i := 8) rfl)) hl (by decide) rfl (fun ls hl => ?_)
  exact hJ_14 r_5 p1 0 I_5 hr_r_5 hr_p1 (by decide) hM H locs ls hw (lv_sub hl [3, 2, 1, 0] rfl)
def rmX9_dropLast : Room := { frames := 0, cells := 0, slots := 0, locals := 0 }
set_option maxHeartbeats 4000000 in
set_option maxRecDepth 100000 in
theorem c_Show_dropLast (l : Launch) (G : sk_G) {Q : sk_S → Prop} {I : sk_S} (hM : M_Show_dropLast Q I) : Met l yX9_dropLast wsX9_dropLast rmX9_dropLast (va_Pc [.ref (sk_ad G 54)] (sk_U G 198 sk_t I)) (sk_Qv G 198 sk_t Q) 0 0 (sk_A G) := by
  refine Met.ofW (cc := cX9_dropLast) (maxL := 1) (ret := none) (by decide) rfl ?_
  intro p e s m args below meth c s₁ B hml hv
  obtain ⟨rfl, hU, hK⟩ := hv
  have hx := B.exec
  have hb := B.bytes
  have hr0 := B.returns
  have hts := atoms_spec (ws := wsX9_dropLast) B.pre
  have hown : s.vm.findClass RX9 = some m.cls := findClass_of_methodNamed B.named
  have hlocks := B.notSynchronized
  have S : CallFix p m c cX9_dropLast 1 s ([.ref (sk_ad G 54)].toArray) wsX9_dropLast RX9 := ⟨hx, hb, hml, hown, hts⟩
  have hL0 := hts (.fieldLink RX9 31 "SkyLights$Show" "size" "I") (by decide +kernel)
  have hI9 : ∀ w ∈ u_ws RX9 TX9 5, w ∈ wsX9_dropLast := by decide +kernel
  have hw : sk_W G 198 sk_t I s s.heap [] := ⟨hU, va_S.rf⟩
  have hl := lv_entry ([.ref (sk_ad G 54)]) (n := 1) (Nat.le_of_ble_eq_true rfl)
  rw [lg_entry_eq]
  generalize (lg_sl ([.ref (sk_ad G 54)]) ++ List.replicate (1 - (lg_sl ([.ref (sk_ad G 54)])).length) Slot.unset).toArray = ls at hl ⊢
  have hl : lv_has ls 1 [(0, .ref (sk_ad G 54))] := hl
  suffices hgo : ∀ (H : Heap) (locs : List Loc), sk_W G 198 sk_t I s H locs → W p l e (headSpec wsX9_dropLast rmX9_dropLast).room s m ([.ref (sk_ad G 54)].toArray) below meth c H locs 0 0 (MQ below (sk_Qv G 198 sk_t Q) ([.ref (sk_ad G 54)].toArray) s 0 0 (sk_A G)) (F0 m 0 ls []) from hgo _ _ hw
  unfold M_Show_dropLast at hM
  intro H locs hw
  refine lv_aload_n hx hb (okX9_dropLast (0, .aload_n 0, 1) (List.mem_of_getElem? (i := 0) rfl)) rfl (lv_at hl 0 rfl) ?_
  refine lv_dup hx hb (okX9_dropLast (1, .dup, 1) (List.mem_of_getElem? (i := 1) rfl)) rfl ?_
  have hr1 := hw.1.2.2 54 3
  refine sk_geti S hK hw kdn_54 (kd_in kdn_54) (C := RX9) (T := TX9) (N := 5) rfl hI9 3 ⟨by decide, rfl, by decide, rfl⟩ rfl (k' := 3) rfl hL0 (okX9_dropLast (2, .getfield 31, 3) (List.mem_of_getElem? (i := 2) rfl)) ?_
  refine lv_iconst (v := iI 1) hx hb (okX9_dropLast (5, .iconst 1, 1) (List.mem_of_getElem? (i := 3) rfl)) rfl ?_
  refine sk_isub hx hb (okX9_dropLast (6, .isub, 1) (List.mem_of_getElem? (i := 4) rfl)) ?_
  obtain ⟨hr2, hM⟩ := hM
  refine sk_put S hK hw kdn_54 (kd_in kdn_54) (C := RX9) (T := TX9) (N := 5) rfl hI9 tyX9 tyX9_ok nmX9 3 ⟨by decide, rfl, by decide, rfl⟩ rfl rfl (k' := 3) rfl hr2 ⟨rfl, rfl⟩ hL0 (okX9_dropLast (7, .putfield 31, 3) (List.mem_of_getElem? (i := 5) rfl)) (fun H locs hw => ?_)
  exact sk_vret hx hb hr0 hlocks hK hw hM (okX9_dropLast (10, .return_, 1) (List.mem_of_getElem? (i := 6) rfl))
def rmX9_fade : Room := { frames := 0, cells := 0, slots := 0, locals := 0 }
set_option maxHeartbeats 4000000 in
set_option maxRecDepth 100000 in
theorem c_Show_fade (l : Launch) (G : sk_G) {p0 p1 p2 p3 : Int} (hr_p0 : rI p0) (hr_p1 : rI p1) (hr_p2 : rI p2) (hr_p3 : rI p3) {Q : Int → sk_S → Prop} {I : sk_S} (hM : M_Show_fade p0 p1 p2 p3 Q I) : Met l yX9_fade wsX9_fade rmX9_fade (va_Pc [.int (iI p0), .int (iI p1), .int (iI p2), .int (iI p3)] (sk_U G 198 sk_t I)) (sk_Qi G 198 sk_t Q) 0 0 (sk_A G) := by
  refine Met.ofW (cc := cX9_fade) (maxL := 4) (ret := (some .int)) (by decide) rfl ?_
  intro p e s m args below meth c s₁ B hml hv
  obtain ⟨rfl, hU, hK⟩ := hv
  have hx := B.exec
  have hb := B.bytes
  have hr0 := B.returns
  have hts := atoms_spec (ws := wsX9_fade) B.pre
  have hown : s.vm.findClass RX9 = some m.cls := findClass_of_methodNamed B.named
  have hlocks := B.notSynchronized
  have S : CallFix p m c cX9_fade 4 s ([.int (iI p0), .int (iI p1), .int (iI p2), .int (iI p3)].toArray) wsX9_fade RX9 := ⟨hx, hb, hml, hown, hts⟩
  have hw : sk_W G 198 sk_t I s s.heap [] := ⟨hU, va_S.rf⟩
  have hl := lv_entry ([.int (iI p0), .int (iI p1), .int (iI p2), .int (iI p3)]) (n := 4) (Nat.le_of_ble_eq_true rfl)
  rw [lg_entry_eq]
  generalize (lg_sl ([.int (iI p0), .int (iI p1), .int (iI p2), .int (iI p3)]) ++ List.replicate (4 - (lg_sl ([.int (iI p0), .int (iI p1), .int (iI p2), .int (iI p3)])).length) Slot.unset).toArray = ls at hl ⊢
  have hl : lv_has ls 4 [(0, .int (iI p0)), (1, .int (iI p1)), (2, .int (iI p2)), (3, .int (iI p3))] := hl
  suffices hgo : ∀ (H : Heap) (locs : List Loc), sk_W G 198 sk_t I s H locs → W p l e (headSpec wsX9_fade rmX9_fade).room s m ([.int (iI p0), .int (iI p1), .int (iI p2), .int (iI p3)].toArray) below meth c H locs 0 0 (MQ below (sk_Qi G 198 sk_t Q) ([.int (iI p0), .int (iI p1), .int (iI p2), .int (iI p3)].toArray) s 0 0 (sk_A G)) (F0 m 0 ls []) from hgo _ _ hw
  unfold M_Show_fade at hM
  intro H locs hw
  refine lv_iload_n hx hb (okX9_fade (0, .iload_n 3, 1) (List.mem_of_getElem? (i := 0) rfl)) rfl (lv_at hl 3 rfl) ?_
  refine sk_if_le (tgt := 16) hx hb hr_p3 (okX9_fade (1, .ifCond .le 15, 3) (List.mem_of_getElem? (i := 1) rfl)) (by decide) (fun c1 => ?_) (fun c1 => ?_)
  · have hM := hM.1 c1
    refine lv_iload_n hx hb (okX9_fade (16, .iload_n 1, 1) (List.mem_of_getElem? (i := 12) rfl)) rfl (lv_at hl 1 rfl) ?_
    exact sk_iret hx hb hr0 hlocks hK hw hr_p1 hM (okX9_fade (17, .ireturn, 1) (List.mem_of_getElem? (i := 13) rfl))
  · have hM := hM.2 c1
    refine lv_iload_n hx hb (okX9_fade (4, .iload_n 0, 1) (List.mem_of_getElem? (i := 2) rfl)) rfl (lv_at hl 0 rfl) ?_
    refine lv_iload_n hx hb (okX9_fade (5, .iload_n 1, 1) (List.mem_of_getElem? (i := 3) rfl)) rfl (lv_at hl 1 rfl) ?_
    refine lv_iload_n hx hb (okX9_fade (6, .iload_n 0, 1) (List.mem_of_getElem? (i := 4) rfl)) rfl (lv_at hl 0 rfl) ?_
    refine sk_isub hx hb (okX9_fade (7, .isub, 1) (List.mem_of_getElem? (i := 5) rfl)) ?_
    refine lv_iload_n hx hb (okX9_fade (8, .iload_n 2, 1) (List.mem_of_getElem? (i := 6) rfl)) rfl (lv_at hl 2 rfl) ?_
    refine sk_imul hx hb (okX9_fade (9, .imul, 1) (List.mem_of_getElem? (i := 7) rfl)) ?_
    refine lv_iload_n hx hb (okX9_fade (10, .iload_n 3, 1) (List.mem_of_getElem? (i := 8) rfl)) rfl (lv_at hl 3 rfl) ?_
    obtain ⟨hz1, hM⟩ := hM
    refine sk_idiv hx hb hr_p3 hz1 (okX9_fade (11, .idiv, 1) (List.mem_of_getElem? (i := 9) rfl)) ?_
    refine sk_iadd hx hb (okX9_fade (12, .iadd, 1) (List.mem_of_getElem? (i := 10) rfl)) ?_
    refine lv_goto (tgt := 17) hx hb (okX9_fade (13, .goto 4, 3) (List.mem_of_getElem? (i := 11) rfl)) (by decide) ?_
    obtain ⟨hr2, hM⟩ := hM
    exact sk_iret hx hb hr0 hlocks hK hw hr2 hM (okX9_fade (17, .ireturn, 1) (List.mem_of_getElem? (i := 13) rfl))
def rmX9_has : Room := { frames := 0, cells := 0, slots := 0, locals := 0 }
set_option maxHeartbeats 4000000 in
set_option maxRecDepth 100000 in
theorem c_Show_has (l : Launch) (G : sk_G) {p1 : Int} (hr_p1 : rI p1) {Q : Int → sk_S → Prop} {I : sk_S} (hM : M_Show_has p1 Q I) : Met l yX9_has wsX9_has rmX9_has (va_Pc [.ref (sk_ad G 54), .int (iI p1)] (sk_U G 198 sk_t I)) (sk_Qz G 198 sk_t Q) 0 0 (sk_A G) := by
  refine Met.ofW (cc := cX9_has) (maxL := 2) (ret := (some .boolean)) (by decide) rfl ?_
  intro p e s m args below meth c s₁ B hml hv
  obtain ⟨rfl, hU, hK⟩ := hv
  have hx := B.exec
  have hb := B.bytes
  have hr0 := B.returns
  have hts := atoms_spec (ws := wsX9_has) B.pre
  have hown : s.vm.findClass RX9 = some m.cls := findClass_of_methodNamed B.named
  have hlocks := B.notSynchronized
  have S : CallFix p m c cX9_has 2 s ([.ref (sk_ad G 54), .int (iI p1)].toArray) wsX9_has RX9 := ⟨hx, hb, hml, hown, hts⟩
  have hL0 := hts (.fieldLink RX9 31 "SkyLights$Show" "size" "I") (by decide +kernel)
  have hI9 : ∀ w ∈ u_ws RX9 TX9 5, w ∈ wsX9_has := by decide +kernel
  have hw : sk_W G 198 sk_t I s s.heap [] := ⟨hU, va_S.rf⟩
  have hl := lv_entry ([.ref (sk_ad G 54), .int (iI p1)]) (n := 2) (Nat.le_of_ble_eq_true rfl)
  rw [lg_entry_eq]
  generalize (lg_sl ([.ref (sk_ad G 54), .int (iI p1)]) ++ List.replicate (2 - (lg_sl ([.ref (sk_ad G 54), .int (iI p1)])).length) Slot.unset).toArray = ls at hl ⊢
  have hl : lv_has ls 2 [(0, .ref (sk_ad G 54)), (1, .int (iI p1))] := hl
  suffices hgo : ∀ (H : Heap) (locs : List Loc), sk_W G 198 sk_t I s H locs → W p l e (headSpec wsX9_has rmX9_has).room s m ([.ref (sk_ad G 54), .int (iI p1)].toArray) below meth c H locs 0 0 (MQ below (sk_Qz G 198 sk_t Q) ([.ref (sk_ad G 54), .int (iI p1)].toArray) s 0 0 (sk_A G)) (F0 m 0 ls []) from hgo _ _ hw
  unfold M_Show_has at hM
  intro H locs hw
  refine lv_iload_n hx hb (okX9_has (0, .iload_n 1, 1) (List.mem_of_getElem? (i := 0) rfl)) rfl (lv_at hl 1 rfl) ?_
  refine sk_if_lt (tgt := 16) hx hb hr_p1 (okX9_has (1, .ifCond .lt 15, 3) (List.mem_of_getElem? (i := 1) rfl)) (by decide) (fun c1 => ?_) (fun c1 => ?_)
  · have hM := hM.1 c1
    refine lv_iconst (v := iI 0) hx hb (okX9_has (16, .iconst 0, 1) (List.mem_of_getElem? (i := 8) rfl)) rfl ?_
    exact sk_zret hx hb hr0 hlocks hK hw (Or.inl rfl) hM (okX9_has (17, .ireturn, 1) (List.mem_of_getElem? (i := 9) rfl))
  · have hM := hM.2 c1
    refine lv_iload_n hx hb (okX9_has (4, .iload_n 1, 1) (List.mem_of_getElem? (i := 2) rfl)) rfl (lv_at hl 1 rfl) ?_
    refine lv_aload_n hx hb (okX9_has (5, .aload_n 0, 1) (List.mem_of_getElem? (i := 3) rfl)) rfl (lv_at hl 0 rfl) ?_
    have hr1 := hw.1.2.2 54 3
    refine sk_geti S hK hw kdn_54 (kd_in kdn_54) (C := RX9) (T := TX9) (N := 5) rfl hI9 3 ⟨by decide, rfl, by decide, rfl⟩ rfl (k' := 3) rfl hL0 (okX9_has (6, .getfield 31, 3) (List.mem_of_getElem? (i := 4) rfl)) ?_
    refine sk_icmp_ge (tgt := 16) hx hb hr_p1 hr1 (okX9_has (9, .if_icmp .ge 7, 3) (List.mem_of_getElem? (i := 5) rfl)) (by decide) (fun c9 => ?_) (fun c9 => ?_)
    · have hM := hM.1 c9
      refine lv_iconst (v := iI 0) hx hb (okX9_has (16, .iconst 0, 1) (List.mem_of_getElem? (i := 8) rfl)) rfl ?_
      exact sk_zret hx hb hr0 hlocks hK hw (Or.inl rfl) hM (okX9_has (17, .ireturn, 1) (List.mem_of_getElem? (i := 9) rfl))
    · have hM := hM.2 c9
      refine lv_iconst (v := iI 1) hx hb (okX9_has (12, .iconst 1, 1) (List.mem_of_getElem? (i := 6) rfl)) rfl ?_
      refine lv_goto (tgt := 17) hx hb (okX9_has (13, .goto 4, 3) (List.mem_of_getElem? (i := 7) rfl)) (by decide) ?_
      exact sk_zret hx hb hr0 hlocks hK hw (Or.inr rfl) hM (okX9_has (17, .ireturn, 1) (List.mem_of_getElem? (i := 9) rfl))
