def rmX9_keepSpare : Room := { frames := 0, cells := 0, slots := 0, locals := 0 }
set_option maxHeartbeats 4000000 in
set_option maxRecDepth 100000 in
theorem c_Show_keepSpare (l : Launch) (G : sk_G) {Q : Int → sk_S → Prop} {I : sk_S} (hM : M_Show_keepSpare Q I) : Met l yX9_keepSpare wsX9_keepSpare rmX9_keepSpare (va_Pc [.ref (sk_ad G 54)] (sk_U G 198 sk_t I)) (sk_Qi G 198 sk_t Q) 0 0 (sk_A G) := by
  refine Met.ofW (cc := cX9_keepSpare) (maxL := 1) (ret := (some .int)) (by decide) rfl ?_
  intro p e s m args below meth c s₁ B hml hv
  obtain ⟨rfl, hU, hK⟩ := hv
  have hx := B.exec
  have hb := B.bytes
  have hr0 := B.returns
  have hts := atoms_spec (ws := wsX9_keepSpare) B.pre
  have hown : s.vm.findClass RX9 = some m.cls := findClass_of_methodNamed B.named
  have hlocks := B.notSynchronized
  have S : CallFix p m c cX9_keepSpare 1 s ([.ref (sk_ad G 54)].toArray) wsX9_keepSpare RX9 := ⟨hx, hb, hml, hown, hts⟩
  have hL0 := hts (.fieldLink RX9 31 "SkyLights$Show" "size" "I") (by decide +kernel)
  have hI9 : ∀ w ∈ u_ws RX9 TX9 5, w ∈ wsX9_keepSpare := by decide +kernel
  have hw : sk_W G 198 sk_t I s s.heap [] := ⟨hU, va_S.rf⟩
  have hl := lv_entry ([.ref (sk_ad G 54)]) (n := 1) (Nat.le_of_ble_eq_true rfl)
  rw [lg_entry_eq]
  generalize (lg_sl ([.ref (sk_ad G 54)]) ++ List.replicate (1 - (lg_sl ([.ref (sk_ad G 54)])).length) Slot.unset).toArray = ls at hl ⊢
  have hl : lv_has ls 1 [(0, .ref (sk_ad G 54))] := hl
  suffices hgo : ∀ (H : Heap) (locs : List Loc), sk_W G 198 sk_t I s H locs → W p l e (headSpec wsX9_keepSpare rmX9_keepSpare).room s m ([.ref (sk_ad G 54)].toArray) below meth c H locs 0 0 (MQ below (sk_Qi G 198 sk_t Q) ([.ref (sk_ad G 54)].toArray) s 0 0 (sk_A G)) (F0 m 0 ls []) from hgo _ _ hw
  unfold M_Show_keepSpare at hM
  intro H locs hw
  refine lv_aload_n hx hb (okX9_keepSpare (0, .aload_n 0, 1) (List.mem_of_getElem? (i := 0) rfl)) rfl (lv_at hl 0 rfl) ?_
  refine lv_dup hx hb (okX9_keepSpare (1, .dup, 1) (List.mem_of_getElem? (i := 1) rfl)) rfl ?_
  have hr1 := hw.1.2.2 54 3
  refine sk_geti S hK hw kdn_54 (kd_in kdn_54) (C := RX9) (T := TX9) (N := 5) rfl hI9 3 ⟨by decide, rfl, by decide, rfl⟩ rfl (k' := 3) rfl hL0 (okX9_keepSpare (2, .getfield 31, 3) (List.mem_of_getElem? (i := 2) rfl)) ?_
  refine lv_iconst (v := iI 1) hx hb (okX9_keepSpare (5, .iconst 1, 1) (List.mem_of_getElem? (i := 3) rfl)) rfl ?_
  refine sk_iadd hx hb (okX9_keepSpare (6, .iadd, 1) (List.mem_of_getElem? (i := 4) rfl)) ?_
  obtain ⟨hr2, hM⟩ := hM
  refine sk_put S hK hw kdn_54 (kd_in kdn_54) (C := RX9) (T := TX9) (N := 5) rfl hI9 tyX9 tyX9_ok nmX9 3 ⟨by decide, rfl, by decide, rfl⟩ rfl rfl (k' := 3) rfl hr2 ⟨rfl, rfl⟩ hL0 (okX9_keepSpare (7, .putfield 31, 3) (List.mem_of_getElem? (i := 5) rfl)) (fun H locs hw => ?_)
  refine lv_aload_n hx hb (okX9_keepSpare (10, .aload_n 0, 1) (List.mem_of_getElem? (i := 6) rfl)) rfl (lv_at hl 0 rfl) ?_
  have hr3 := hw.1.2.2 54 3
  refine sk_geti S hK hw kdn_54 (kd_in kdn_54) (C := RX9) (T := TX9) (N := 5) rfl hI9 3 ⟨by decide, rfl, by decide, rfl⟩ rfl (k' := 3) rfl hL0 (okX9_keepSpare (11, .getfield 31, 3) (List.mem_of_getElem? (i := 7) rfl)) ?_
  refine lv_iconst (v := iI 1) hx hb (okX9_keepSpare (14, .iconst 1, 1) (List.mem_of_getElem? (i := 8) rfl)) rfl ?_
  refine sk_isub hx hb (okX9_keepSpare (15, .isub, 1) (List.mem_of_getElem? (i := 9) rfl)) ?_
  obtain ⟨hr4, hM⟩ := hM
  exact sk_iret hx hb hr0 hlocks hK hw hr4 hM (okX9_keepSpare (16, .ireturn, 1) (List.mem_of_getElem? (i := 10) rfl))
def rmX9_lastFigure : Room := { frames := 1, cells := 0, slots := 0, locals := 53 }
set_option maxHeartbeats 4000000 in
set_option maxRecDepth 100000 in
theorem c_Show_lastFigure (l : Launch) (G : sk_G) {Q : Int → sk_S → Prop} {I : sk_S} (hM : M_Show_lastFigure Q I) : Met l yX9_lastFigure wsX9_lastFigure rmX9_lastFigure (va_Pc [.ref (sk_ad G 54)] (sk_U G 198 sk_t I)) (sk_Qi G 198 sk_t Q) 0 0 (sk_A G) := by
  refine Met.ofW (cc := cX9_lastFigure) (maxL := 1) (ret := (some .int)) (by decide) rfl ?_
  intro p e s m args below meth c s₁ B hml hv
  obtain ⟨rfl, hU, hK⟩ := hv
  have hx := B.exec
  have hb := B.bytes
  have hr0 := B.returns
  have hts := atoms_spec (ws := wsX9_lastFigure) B.pre
  have hown : s.vm.findClass RX9 = some m.cls := findClass_of_methodNamed B.named
  have hlocks := B.notSynchronized
  have S : CallFix p m c cX9_lastFigure 1 s ([.ref (sk_ad G 54)].toArray) wsX9_lastFigure RX9 := ⟨hx, hb, hml, hown, hts⟩
  have hL0 := hts (.fieldLink RX9 31 "SkyLights$Show" "size" "I") (by decide +kernel)
  have hI8 : ∀ w ∈ u_ws RX8 TX8 5, w ∈ wsX9_lastFigure := by decide +kernel
  have hI9 : ∀ w ∈ u_ws RX9 TX9 5, w ∈ wsX9_lastFigure := by decide +kernel
  have hw : sk_W G 198 sk_t I s s.heap [] := ⟨hU, va_S.rf⟩
  have hl := lv_entry ([.ref (sk_ad G 54)]) (n := 1) (Nat.le_of_ble_eq_true rfl)
  rw [lg_entry_eq]
  generalize (lg_sl ([.ref (sk_ad G 54)]) ++ List.replicate (1 - (lg_sl ([.ref (sk_ad G 54)])).length) Slot.unset).toArray = ls at hl ⊢
  have hl : lv_has ls 1 [(0, .ref (sk_ad G 54))] := hl
  suffices hgo : ∀ (H : Heap) (locs : List Loc), sk_W G 198 sk_t I s H locs → W p l e (headSpec wsX9_lastFigure rmX9_lastFigure).room s m ([.ref (sk_ad G 54)].toArray) below meth c H locs 0 0 (MQ below (sk_Qi G 198 sk_t Q) ([.ref (sk_ad G 54)].toArray) s 0 0 (sk_A G)) (F0 m 0 ls []) from hgo _ _ hw
  unfold M_Show_lastFigure at hM
  intro H locs hw
  refine lv_aload_n hx hb (okX9_lastFigure (0, .aload_n 0, 1) (List.mem_of_getElem? (i := 0) rfl)) rfl (lv_at hl 0 rfl) ?_
  have hr1 := hw.1.2.2 54 3
  refine sk_geti S hK hw kdn_54 (kd_in kdn_54) (C := RX9) (T := TX9) (N := 5) rfl hI9 3 ⟨by decide, rfl, by decide, rfl⟩ rfl (k' := 3) rfl hL0 (okX9_lastFigure (1, .getfield 31, 3) (List.mem_of_getElem? (i := 1) rfl)) ?_
  refine sk_if_le (tgt := 23) hx hb hr1 (okX9_lastFigure (4, .ifCond .le 19, 3) (List.mem_of_getElem? (i := 2) rfl)) (by decide) (fun c4 => ?_) (fun c4 => ?_)
  · have hM := hM.1 c4
    refine lv_iconst (v := iI (-1)) hx hb (okX9_lastFigure (23, .iconst (-1), 1) (List.mem_of_getElem? (i := 11) rfl)) rfl ?_
    exact sk_iret hx hb hr0 hlocks hK hw (by decide) hM (okX9_lastFigure (24, .ireturn, 1) (List.mem_of_getElem? (i := 12) rfl))
  · have hM := hM.2 c4
    refine lv_aload_n hx hb (okX9_lastFigure (7, .aload_n 0, 1) (List.mem_of_getElem? (i := 3) rfl)) rfl (lv_at hl 0 rfl) ?_
    refine lv_aload_n hx hb (okX9_lastFigure (8, .aload_n 0, 1) (List.mem_of_getElem? (i := 4) rfl)) rfl (lv_at hl 0 rfl) ?_
    have hr2 := hw.1.2.2 54 3
    refine sk_geti S hK hw kdn_54 (kd_in kdn_54) (C := RX9) (T := TX9) (N := 5) rfl hI9 3 ⟨by decide, rfl, by decide, rfl⟩ rfl (k' := 3) rfl hL0 (okX9_lastFigure (9, .getfield 31, 3) (List.mem_of_getElem? (i := 5) rfl)) ?_
    refine lv_iconst (v := iI 1) hx hb (okX9_lastFigure (12, .iconst 1, 1) (List.mem_of_getElem? (i := 6) rfl)) rfl ?_
    refine sk_isub hx hb (okX9_lastFigure (13, .isub, 1) (List.mem_of_getElem? (i := 7) rfl)) ?_
    obtain ⟨hr3, hM⟩ := hM
    refine sk_cr (sk_runV (a := 54) (C := RX9) (As := [.int (iI ((I 54 3) - 1))]) (rest := []) S (c_Show_at l G hr3 hM) sk_blind gX9_lastFigure_X9_at rfl hdX9_at ⟨⟨rfl, rfl⟩, Nat.le_of_ble_eq_true rfl, Nat.le_of_ble_eq_true rfl⟩ (sk_recv hK hw kdn_54 (kd_in kdn_54) (by decide) rfl) (sk_pre hK hw) rfl hl.1 rfl (Nat.le_of_ble_eq_true rfl) (okX9_lastFigure (14, .invokevirtual 38, 3) (List.mem_of_getElem? (i := 8) rfl)) ⟨Nat.zero_le _, Nat.zero_le _⟩) hw (fun r_14 I_14 H locs hk_r_14 hM hw => ?_)
    have hr4 := hw.1.2.2 r_14 2
    refine sk_getiN S hK hw hk_r_14 (kd_in hk_r_14) (C := RX8) (T := TX8) (N := 5) rfl hI8 2 ⟨by decide, rfl, by decide, rfl⟩ rfl (k' := 2) rfl (va_Nw.use rfl (hK.2.1 ("SkyLights$Show", 46, "SkyLights$Scene", "figure", "I") (by decide +kernel))) (okX9_lastFigure (17, .getfield 46, 3) (List.mem_of_getElem? (i := 9) rfl)) ?_
    refine lv_goto (tgt := 24) hx hb (okX9_lastFigure (20, .goto 4, 3) (List.mem_of_getElem? (i := 10) rfl)) (by decide) ?_
    exact sk_iret hx hb hr0 hlocks hK hw hr4 hM (okX9_lastFigure (24, .ireturn, 1) (List.mem_of_getElem? (i := 12) rfl))
def rmX9_light : Room := { frames := 2, cells := 0, slots := 0, locals := 104 }
set_option maxHeartbeats 4000000 in
set_option maxRecDepth 100000 in
theorem c_Show_light (l : Launch) (G : sk_G) {p1 : Int} (hr_p1 : rI p1) {Q : Int → sk_S → Prop} {I : sk_S} (hM : M_Show_light p1 Q I) : Met l yX9_light wsX9_light rmX9_light (va_Pc [.ref (sk_ad G 54), .int (iI p1)] (sk_U G 198 sk_t I)) (sk_Qi G 198 sk_t Q) 0 0 (sk_A G) := by
  refine Met.ofW (cc := cX9_light) (maxL := 6) (ret := (some .int)) (by decide) rfl ?_
  intro p e s m args below meth c s₁ B hml hv
  obtain ⟨rfl, hU, hK⟩ := hv
  have hx := B.exec
  have hb := B.bytes
  have hr0 := B.returns
  have hts := atoms_spec (ws := wsX9_light) B.pre
  have hown : s.vm.findClass RX9 = some m.cls := findClass_of_methodNamed B.named
  have hlocks := B.notSynchronized
  have S : CallFix p m c cX9_light 6 s ([.ref (sk_ad G 54), .int (iI p1)].toArray) wsX9_light RX9 := ⟨hx, hb, hml, hown, hts⟩
  have hL0 := hts (.fieldLink RX9 31 "SkyLights$Show" "size" "I") (by decide +kernel)
  have hI8 : ∀ w ∈ u_ws RX8 TX8 5, w ∈ wsX9_light := by decide +kernel
  have hI9 : ∀ w ∈ u_ws RX9 TX9 5, w ∈ wsX9_light := by decide +kernel
  have hw : sk_W G 198 sk_t I s s.heap [] := ⟨hU, va_S.rf⟩
  have hl := lv_entry ([.ref (sk_ad G 54), .int (iI p1)]) (n := 6) (Nat.le_of_ble_eq_true rfl)
  rw [lg_entry_eq]
  generalize (lg_sl ([.ref (sk_ad G 54), .int (iI p1)]) ++ List.replicate (6 - (lg_sl ([.ref (sk_ad G 54), .int (iI p1)])).length) Slot.unset).toArray = ls at hl ⊢
  have hl : lv_has ls 6 [(0, .ref (sk_ad G 54)), (1, .int (iI p1))] := hl
  suffices hgo : ∀ (H : Heap) (locs : List Loc), sk_W G 198 sk_t I s H locs → W p l e (headSpec wsX9_light rmX9_light).room s m ([.ref (sk_ad G 54), .int (iI p1)].toArray) below meth c H locs 0 0 (MQ below (sk_Qi G 198 sk_t Q) ([.ref (sk_ad G 54), .int (iI p1)].toArray) s 0 0 (sk_A G)) (F0 m 0 ls []) from hgo _ _ hw
  have hJ_36 : ∀ (v2 v3 v5 : Int) (I : sk_S), rI v2 → rI v3 → kd v5 = 8 → J_Show_light_36 v2 v3 v5 Q I → ∀ (H : Heap) (locs : List Loc) (ls : Array Slot), sk_W G 198 sk_t I s H locs → lv_has ls 6 [(2, .int (iI v2)), (3, .int (iI v3)), (5, .ref (sk_ad G v5))] → W p l e (headSpec wsX9_light rmX9_light).room s m ([.ref (sk_ad G 54), .int (iI p1)].toArray) below meth c H locs 0 0 (MQ below (sk_Qi G 198 sk_t Q) ([.ref (sk_ad G 54), .int (iI p1)].toArray) s 0 0 (sk_A G)) (F0 m 36 ls []) := by
    intro v2 v3 v5 I hr_v2 hr_v3 hk_v5 hM H locs ls hw hl
    unfold J_Show_light_36 at hM
    refine lv_iload_n hx hb (okX9_light (36, .iload_n 3, 1) (List.mem_of_getElem? (i := 19) rfl)) rfl (lv_at hl 1 rfl) ?_
    refine lv_aload hx hb (okX9_light (37, .aload 5, 2) (List.mem_of_getElem? (i := 20) rfl)) (lv_at hl 2 rfl) ?_
    have hr6 := hw.1.2.2 v5 4
    refine sk_getiN S hK hw hk_v5 (kd_in hk_v5) (C := RX8) (T := TX8) (N := 5) rfl hI8 4 ⟨by decide, rfl, by decide, rfl⟩ rfl (k' := 4) rfl (va_Nw.use rfl (hK.2.1 ("SkyLights$Show", 79, "SkyLights$Scene", "cue", "I") (by decide +kernel))) (okX9_light (39, .getfield 79, 3) (List.mem_of_getElem? (i := 21) rfl)) ?_
    refine lv_iload_n hx hb (okX9_light (42, .iload_n 2, 1) (List.mem_of_getElem? (i := 22) rfl)) rfl (lv_at hl 0 rfl) ?_
    refine lv_aload hx hb (okX9_light (43, .aload 5, 2) (List.mem_of_getElem? (i := 23) rfl)) (lv_at hl 2 rfl) ?_
    refine sk_getrN (b := (v5 + 1)) S hK hw hk_v5 (kd_in hk_v5) (C := RX8) (T := TX8) (N := 5) rfl hI8 0 ⟨by decide, rfl, by decide, rfl⟩ rfl (k' := 0) rfl rfl (rf80 hk_v5) (va_Nw.use rfl (hK.2.1 ("SkyLights$Show", 49, "SkyLights$Scene", "way", "LSkyLights$Pass;") (by decide +kernel))) (okX9_light (45, .getfield 49, 3) (List.mem_of_getElem? (i := 24) rfl)) ?_
    refine sk_ci (sk_runV (a := (v5 + 1)) (C := RX4) (As := []) (rest := [.int (iI v2), .int (iI (I v5 4)), .int (iI v3)]) S (c_Pass_ticks l G (k8 hk_v5).1 hM) sk_blind gX9_light_X4_ticks rfl hdX4_ticks ⟨⟨rfl, rfl⟩, Nat.le_of_ble_eq_true rfl, Nat.le_of_ble_eq_true rfl⟩ (sk_recv hK hw (k8 hk_v5).1 (kd_in (k8 hk_v5).1) (by decide) rfl) (sk_pre hK hw) rfl hl.1 rfl (Nat.le_of_ble_eq_true rfl) (okX9_light (48, .invokevirtual 70, 3) (List.mem_of_getElem? (i := 25) rfl)) ⟨Nat.zero_le _, Nat.zero_le _⟩) hw (fun r_48 I_48 H locs hr_r_48 hM hw => ?_)
    refine sk_ci (sk_runS (As := [.int (iI v3), .int (iI (I v5 4)), .int (iI v2), .int (iI r_48)]) (rest := []) S (c_Show_fade l G hr_v3 hr6 hr_v2 hr_r_48 hM) sk_blind gX9_light_X9_fade rfl hdX9_fade ⟨⟨rfl, rfl⟩, Nat.le_of_ble_eq_true rfl, Nat.le_of_ble_eq_true rfl⟩ (sk_pre hK hw) rfl hl.1 rfl (Nat.le_of_ble_eq_true rfl) (okX9_light (51, .invokestatic 82, 3) (List.mem_of_getElem? (i := 26) rfl)) ⟨Nat.zero_le _, Nat.zero_le _⟩) hw (fun r_51 I_51 H locs hr_r_51 hM hw => ?_)
    exact sk_iret hx hb hr0 hlocks hK hw hr_r_51 hM (okX9_light (54, .ireturn, 1) (List.mem_of_getElem? (i := 27) rfl))
  have hJ_90 : ∀ (v2 v3 : Int) (I : sk_S), rI v2 → rI v3 → J_Show_light_90 v2 v3 Q I → ∀ (H : Heap) (locs : List Loc) (ls : Array Slot), sk_W G 198 sk_t I s H locs → lv_has ls 6 [(0, .ref (sk_ad G 54)), (2, .int (iI v2)), (3, .int (iI v3))] → W p l e (headSpec wsX9_light rmX9_light).room s m ([.ref (sk_ad G 54), .int (iI p1)].toArray) below meth c H locs 0 0 (MQ below (sk_Qi G 198 sk_t Q) ([.ref (sk_ad G 54), .int (iI p1)].toArray) s 0 0 (sk_A G)) (F0 m 90 ls []) := by
    intro v2 v3 I hr_v2 hr_v3 hM H locs ls hw hl
    unfold J_Show_light_90 at hM
    refine lv_iload_n hx hb (okX9_light (90, .iload_n 3, 1) (List.mem_of_getElem? (i := 45) rfl)) rfl (lv_at hl 2 rfl) ?_
    refine lv_iconst (v := iI 0) hx hb (okX9_light (91, .iconst 0, 1) (List.mem_of_getElem? (i := 46) rfl)) rfl ?_
    refine lv_iload_n hx hb (okX9_light (92, .iload_n 2, 1) (List.mem_of_getElem? (i := 47) rfl)) rfl (lv_at hl 1 rfl) ?_
    refine lv_aload_n hx hb (okX9_light (93, .aload_n 0, 1) (List.mem_of_getElem? (i := 48) rfl)) rfl (lv_at hl 0 rfl) ?_
    refine lv_aload_n hx hb (okX9_light (94, .aload_n 0, 1) (List.mem_of_getElem? (i := 49) rfl)) rfl (lv_at hl 0 rfl) ?_
    have hr7 := hw.1.2.2 54 3
    refine sk_geti S hK hw kdn_54 (kd_in kdn_54) (C := RX9) (T := TX9) (N := 5) rfl hI9 3 ⟨by decide, rfl, by decide, rfl⟩ rfl (k' := 3) rfl hL0 (okX9_light (95, .getfield 31, 3) (List.mem_of_getElem? (i := 50) rfl)) ?_
    refine lv_iconst (v := iI 1) hx hb (okX9_light (98, .iconst 1, 1) (List.mem_of_getElem? (i := 51) rfl)) rfl ?_
    refine sk_isub hx hb (okX9_light (99, .isub, 1) (List.mem_of_getElem? (i := 52) rfl)) ?_
    obtain ⟨hr8, hM⟩ := hM
    refine sk_cr (sk_runV (a := 54) (C := RX9) (As := [.int (iI ((I 54 3) - 1))]) (rest := [.int (iI v2), .int (iI 0), .int (iI v3)]) S (c_Show_at l G hr8 hM) sk_blind gX9_light_X9_at rfl hdX9_at ⟨⟨rfl, rfl⟩, Nat.le_of_ble_eq_true rfl, Nat.le_of_ble_eq_true rfl⟩ (sk_recv hK hw kdn_54 (kd_in kdn_54) (by decide) rfl) (sk_pre hK hw) rfl hl.1 rfl (Nat.le_of_ble_eq_true rfl) (okX9_light (100, .invokevirtual 38, 3) (List.mem_of_getElem? (i := 53) rfl)) ⟨Nat.zero_le _, Nat.zero_le _⟩) hw (fun r_100 I_100 H locs hk_r_100 hM hw => ?_)
    refine sk_getrN (b := (r_100 + 4)) S hK hw hk_r_100 (kd_in hk_r_100) (C := RX8) (T := TX8) (N := 5) rfl hI8 1 ⟨by decide, rfl, by decide, rfl⟩ rfl (k' := 1) rfl rfl (rf81 hk_r_100) (va_Nw.use rfl (hK.2.1 ("SkyLights$Show", 59, "SkyLights$Scene", "home", "LSkyLights$Pass;") (by decide +kernel))) (okX9_light (103, .getfield 59, 3) (List.mem_of_getElem? (i := 54) rfl)) ?_
    refine sk_ci (sk_runV (a := (r_100 + 4)) (C := RX4) (As := []) (rest := [.int (iI v2), .int (iI 0), .int (iI v3)]) S (c_Pass_ticks l G (k8 hk_r_100).2 hM) sk_blind gX9_light_X4_ticks rfl hdX4_ticks ⟨⟨rfl, rfl⟩, Nat.le_of_ble_eq_true rfl, Nat.le_of_ble_eq_true rfl⟩ (sk_recv hK hw (k8 hk_r_100).2 (kd_in (k8 hk_r_100).2) (by decide) rfl) (sk_pre hK hw) rfl hl.1 rfl (Nat.le_of_ble_eq_true rfl) (okX9_light (106, .invokevirtual 70, 3) (List.mem_of_getElem? (i := 55) rfl)) ⟨Nat.zero_le _, Nat.zero_le _⟩) hw (fun r_106 I_106 H locs hr_r_106 hM hw => ?_)
    refine sk_ci (sk_runS (As := [.int (iI v3), .int (iI 0), .int (iI v2), .int (iI r_106)]) (rest := []) S (c_Show_fade l G hr_v3 (by decide) hr_v2 hr_r_106 hM) sk_blind gX9_light_X9_fade rfl hdX9_fade ⟨⟨rfl, rfl⟩, Nat.le_of_ble_eq_true rfl, Nat.le_of_ble_eq_true rfl⟩ (sk_pre hK hw) rfl hl.1 rfl (Nat.le_of_ble_eq_true rfl) (okX9_light (109, .invokestatic 82, 3) (List.mem_of_getElem? (i := 56) rfl)) ⟨Nat.zero_le _, Nat.zero_le _⟩) hw (fun r_109 I_109 H locs hr_r_109 hM hw => ?_)
    exact sk_iret hx hb hr0 hlocks hK hw hr_r_109 hM (okX9_light (112, .ireturn, 1) (List.mem_of_getElem? (i := 57) rfl))
  have hJ_7 : ∀ (v2 v3 v4 : Int) (I : sk_S), rI v2 → rI v3 → rI v4 → L_Show_light_7 Q v2 v3 v4 I → ∀ (H : Heap) (locs : List Loc) (ls : Array Slot), sk_W G 198 sk_t I s H locs → lv_has ls 6 [(0, .ref (sk_ad G 54)), (2, .int (iI v2)), (3, .int (iI v3)), (4, .int (iI v4))] → W p l e (headSpec wsX9_light rmX9_light).room s m ([.ref (sk_ad G 54), .int (iI p1)].toArray) below meth c H locs 0 0 (MQ below (sk_Qi G 198 sk_t Q) ([.ref (sk_ad G 54), .int (iI p1)].toArray) s 0 0 (sk_A G)) (F0 m 7 ls []) := by
    intro v2 v3 v4 I hr_v2 hr_v3 hr_v4 hM H locs ls hw hl
    unfold L_Show_light_7 at hM
    obtain ⟨X_7, hX_7⟩ : ∃ X : Int → Int → Int → sk_S → Prop, ∀ (v2 v3 v4 : Int) (I : sk_S), X v2 v3 v4 I ↔ (rI v2 → rI v3 → rI v4 → ∀ (H : Heap) (locs : List Loc) (ls : Array Slot), sk_W G 198 sk_t I s H locs → lv_has ls 6 [(0, .ref (sk_ad G 54)), (2, .int (iI v2)), (3, .int (iI v3)), (4, .int (iI v4))] → W p l e (headSpec wsX9_light rmX9_light).room s m ([.ref (sk_ad G 54), .int (iI p1)].toArray) below meth c H locs 0 0 (MQ below (sk_Qi G 198 sk_t Q) ([.ref (sk_ad G 54), .int (iI p1)].toArray) s 0 0 (sk_A G)) (F0 m 7 ls [])) := ⟨_, fun _ _ _ _ => Iff.rfl⟩
    refine (hX_7 v2 v3 v4 I).1 (hM X_7 (fun v2 v3 v4 I hM => (hX_7 v2 v3 v4 I).2 (fun hr_v2 hr_v3 hr_v4 H locs ls hw hl => ?_))) hr_v2 hr_v3 hr_v4 H locs ls hw hl
    refine lv_iload hx hb (okX9_light (7, .iload 4, 2) (List.mem_of_getElem? (i := 6) rfl)) (lv_at hl 3 rfl) ?_
    refine lv_aload_n hx hb (okX9_light (9, .aload_n 0, 1) (List.mem_of_getElem? (i := 7) rfl)) rfl (lv_at hl 0 rfl) ?_
    have hr1 := hw.1.2.2 54 3
    refine sk_geti S hK hw kdn_54 (kd_in kdn_54) (C := RX9) (T := TX9) (N := 5) rfl hI9 3 ⟨by decide, rfl, by decide, rfl⟩ rfl (k' := 3) rfl hL0 (okX9_light (10, .getfield 31, 3) (List.mem_of_getElem? (i := 8) rfl)) ?_
    refine sk_icmp_ge (tgt := 90) hx hb hr_v4 hr1 (okX9_light (13, .if_icmp .ge 77, 3) (List.mem_of_getElem? (i := 9) rfl)) (by decide) (fun c13 => ?_) (fun c13 => ?_)
    · have hM := hM.1 c13
      exact hJ_90 v2 v3 I hr_v2 hr_v3 hM H locs ls hw (lv_sub hl [0, 1, 2] rfl)
    · have hM := hM.2 c13
      refine lv_aload_n hx hb (okX9_light (16, .aload_n 0, 1) (List.mem_of_getElem? (i := 10) rfl)) rfl (lv_at hl 0 rfl) ?_
      refine lv_iload hx hb (okX9_light (17, .iload 4, 2) (List.mem_of_getElem? (i := 11) rfl)) (lv_at hl 3 rfl) ?_
      refine sk_cr (sk_runV (a := 54) (C := RX9) (As := [.int (iI v4)]) (rest := []) S (c_Show_at l G hr_v4 hM) sk_blind gX9_light_X9_at rfl hdX9_at ⟨⟨rfl, rfl⟩, Nat.le_of_ble_eq_true rfl, Nat.le_of_ble_eq_true rfl⟩ (sk_recv hK hw kdn_54 (kd_in kdn_54) (by decide) rfl) (sk_pre hK hw) rfl hl.1 rfl (Nat.le_of_ble_eq_true rfl) (okX9_light (19, .invokevirtual 38, 3) (List.mem_of_getElem? (i := 12) rfl)) ⟨Nat.zero_le _, Nat.zero_le _⟩) hw (fun r_19 I_19 H locs hk_r_19 hM hw => ?_)
      refine lv_astore (lv' := [(5, .ref (sk_ad G r_19)), (0, .ref (sk_ad G 54)), (2, .int (iI v2)), (3, .int (iI v3)), (4, .int (iI v4))]) hx hb (okX9_light (22, .astore 5, 2) (List.mem_of_getElem? (i := 13) rfl)) hl (by decide) rfl (fun ls hl => ?_)
      refine lv_iload_n hx hb (okX9_light (24, .iload_n 2, 1) (List.mem_of_getElem? (i := 14) rfl)) rfl (lv_at hl 2 rfl) ?_
      refine lv_aload hx hb (okX9_light (25, .aload 5, 2) (List.mem_of_getElem? (i := 15) rfl)) (lv_at hl 0 rfl) ?_
      refine sk_getrN (b := (r_19 + 1)) S hK hw hk_r_19 (kd_in hk_r_19) (C := RX8) (T := TX8) (N := 5) rfl hI8 0 ⟨by decide, rfl, by decide, rfl⟩ rfl (k' := 0) rfl rfl (rf80 hk_r_19) (va_Nw.use rfl (hK.2.1 ("SkyLights$Show", 49, "SkyLights$Scene", "way", "LSkyLights$Pass;") (by decide +kernel))) (okX9_light (27, .getfield 49, 3) (List.mem_of_getElem? (i := 16) rfl)) ?_
      refine sk_ci (sk_runV (a := (r_19 + 1)) (C := RX4) (As := []) (rest := [.int (iI v2)]) S (c_Pass_ticks l G (k8 hk_r_19).1 hM) sk_blind gX9_light_X4_ticks rfl hdX4_ticks ⟨⟨rfl, rfl⟩, Nat.le_of_ble_eq_true rfl, Nat.le_of_ble_eq_true rfl⟩ (sk_recv hK hw (k8 hk_r_19).1 (kd_in (k8 hk_r_19).1) (by decide) rfl) (sk_pre hK hw) rfl hl.1 rfl (Nat.le_of_ble_eq_true rfl) (okX9_light (30, .invokevirtual 70, 3) (List.mem_of_getElem? (i := 17) rfl)) ⟨Nat.zero_le _, Nat.zero_le _⟩) hw (fun r_30 I_30 H locs hr_r_30 hM hw => ?_)
      refine sk_icmp_gt (tgt := 55) hx hb hr_v2 hr_r_30 (okX9_light (33, .if_icmp .gt 22, 3) (List.mem_of_getElem? (i := 18) rfl)) (by decide) (fun c33 => ?_) (fun c33 => ?_)
      · have hM := hM.1 c33
        refine lv_iload_n hx hb (okX9_light (55, .iload_n 2, 1) (List.mem_of_getElem? (i := 28) rfl)) rfl (lv_at hl 2 rfl) ?_
        refine lv_aload hx hb (okX9_light (56, .aload 5, 2) (List.mem_of_getElem? (i := 29) rfl)) (lv_at hl 0 rfl) ?_
        refine sk_ci (sk_runV (a := r_19) (C := RX8) (As := []) (rest := [.int (iI v2)]) S (c_Scene_ticks l G hk_r_19 hM) sk_blind gX9_light_X8_ticks rfl hdX8_ticks ⟨⟨rfl, rfl⟩, Nat.le_of_ble_eq_true rfl, Nat.le_of_ble_eq_true rfl⟩ (sk_recv hK hw hk_r_19 (kd_in hk_r_19) (by decide) rfl) (sk_pre hK hw) rfl hl.1 rfl (Nat.le_of_ble_eq_true rfl) (okX9_light (58, .invokevirtual 66, 3) (List.mem_of_getElem? (i := 30) rfl)) ⟨Nat.zero_le _, Nat.zero_le _⟩) hw (fun r_58 I_58 H locs hr_r_58 hM hw => ?_)
        refine sk_icmp_gt (tgt := 70) hx hb hr_v2 hr_r_58 (okX9_light (61, .if_icmp .gt 9, 3) (List.mem_of_getElem? (i := 31) rfl)) (by decide) (fun c61 => ?_) (fun c61 => ?_)
        · have hM := hM.1 c61
          refine lv_iload_n hx hb (okX9_light (70, .iload_n 2, 1) (List.mem_of_getElem? (i := 35) rfl)) rfl (lv_at hl 2 rfl) ?_
          refine lv_aload hx hb (okX9_light (71, .aload 5, 2) (List.mem_of_getElem? (i := 36) rfl)) (lv_at hl 0 rfl) ?_
          refine sk_ci (sk_runV (a := r_19) (C := RX8) (As := []) (rest := [.int (iI v2)]) S (c_Scene_ticks l G hk_r_19 hM) sk_blind gX9_light_X8_ticks rfl hdX8_ticks ⟨⟨rfl, rfl⟩, Nat.le_of_ble_eq_true rfl, Nat.le_of_ble_eq_true rfl⟩ (sk_recv hK hw hk_r_19 (kd_in hk_r_19) (by decide) rfl) (sk_pre hK hw) rfl hl.1 rfl (Nat.le_of_ble_eq_true rfl) (okX9_light (73, .invokevirtual 66, 3) (List.mem_of_getElem? (i := 37) rfl)) ⟨Nat.zero_le _, Nat.zero_le _⟩) hw (fun r_73 I_73 H locs hr_r_73 hM hw => ?_)
          refine sk_isub hx hb (okX9_light (76, .isub, 1) (List.mem_of_getElem? (i := 38) rfl)) ?_
          obtain ⟨hr2, hM⟩ := hM
          refine sk_nm (fun v2_77 ev2_77 => ?_)
          have hM := hM v2_77 ev2_77
          have hr_v2_77 : rI v2_77 := by rw [ev2_77]; exact hr2
          refine lv_istore_n (lv' := [(2, .int (iI v2_77)), (5, .ref (sk_ad G r_19)), (0, .ref (sk_ad G 54)), (3, .int (iI v3)), (4, .int (iI v4))]) hx hb (okX9_light (77, .istore_n 2, 1) (List.mem_of_getElem? (i := 39) rfl)) rfl hl (by decide) rfl (fun ls hl => ?_)
          refine lv_aload hx hb (okX9_light (78, .aload 5, 2) (List.mem_of_getElem? (i := 40) rfl)) (lv_at hl 1 rfl) ?_
          have hr3 := hw.1.2.2 r_19 4
          refine sk_getiN S hK hw hk_r_19 (kd_in hk_r_19) (C := RX8) (T := TX8) (N := 5) rfl hI8 4 ⟨by decide, rfl, by decide, rfl⟩ rfl (k' := 4) rfl (va_Nw.use rfl (hK.2.1 ("SkyLights$Show", 79, "SkyLights$Scene", "cue", "I") (by decide +kernel))) (okX9_light (80, .getfield 79, 3) (List.mem_of_getElem? (i := 41) rfl)) ?_
          refine sk_nm (fun v3_83 ev3_83 => ?_)
          have hM := hM v3_83 ev3_83
          have hr_v3_83 : rI v3_83 := by rw [ev3_83]; exact hr3
          refine lv_istore_n (lv' := [(3, .int (iI v3_83)), (2, .int (iI v2_77)), (5, .ref (sk_ad G r_19)), (0, .ref (sk_ad G 54)), (4, .int (iI v4))]) hx hb (okX9_light (83, .istore_n 3, 1) (List.mem_of_getElem? (i := 42) rfl)) rfl hl (by decide) rfl (fun ls hl => ?_)
          obtain ⟨hr4, hM⟩ := hM
          obtain ⟨v4_84, ev4_84⟩ : ∃ y : Int, y = v4 + 1 := ⟨_, rfl⟩
          have hM := hM v4_84 ev4_84
          have hr_v4_84 : rI v4_84 := by rw [ev4_84]; exact hr4
          refine lv_iinc (v := iI v4_84) (lv' := [(4, .int (iI v4_84)), (3, .int (iI v3_83)), (2, .int (iI v2_77)), (5, .ref (sk_ad G r_19)), (0, .ref (sk_ad G 54))]) hx hb (okX9_light (84, .iinc 4 1, 3) (List.mem_of_getElem? (i := 43) rfl)) hl (k := 4) rfl (by rw [ev4_84]; exact iI_add _ _) (by decide) rfl (fun ls hl => ?_)
          refine lv_goto (tgt := 7) hx hb (okX9_light (87, .goto (-80), 3) (List.mem_of_getElem? (i := 44) rfl)) (by decide) ?_
          exact (hX_7 v2_77 v3_83 v4_84 I_73).1 hM hr_v2_77 hr_v3_83 hr_v4_84 H locs ls hw (lv_sub hl [4, 2, 1, 0] rfl)
        · have hM := hM.2 c61
          refine lv_aload hx hb (okX9_light (64, .aload 5, 2) (List.mem_of_getElem? (i := 32) rfl)) (lv_at hl 0 rfl) ?_
          have hr5 := hw.1.2.2 r_19 4
          refine sk_getiN S hK hw hk_r_19 (kd_in hk_r_19) (C := RX8) (T := TX8) (N := 5) rfl hI8 4 ⟨by decide, rfl, by decide, rfl⟩ rfl (k' := 4) rfl (va_Nw.use rfl (hK.2.1 ("SkyLights$Show", 79, "SkyLights$Scene", "cue", "I") (by decide +kernel))) (okX9_light (66, .getfield 79, 3) (List.mem_of_getElem? (i := 33) rfl)) ?_
          exact sk_iret hx hb hr0 hlocks hK hw hr5 hM (okX9_light (69, .ireturn, 1) (List.mem_of_getElem? (i := 34) rfl))
      · have hM := hM.2 c33
        exact hJ_36 v2 v3 r_19 I_30 hr_v2 hr_v3 hk_r_19 hM H locs ls hw (lv_sub hl [2, 3, 0] rfl)
  unfold M_Show_light at hM
  intro H locs hw
  refine lv_iload_n hx hb (okX9_light (0, .iload_n 1, 1) (List.mem_of_getElem? (i := 0) rfl)) rfl (lv_at hl 1 rfl) ?_
  refine lv_istore_n (lv' := [(2, .int (iI p1)), (0, .ref (sk_ad G 54)), (1, .int (iI p1))]) hx hb (okX9_light (1, .istore_n 2, 1) (List.mem_of_getElem? (i := 1) rfl)) rfl hl (by decide) rfl (fun ls hl => ?_)
  refine lv_iconst (v := iI 0) hx hb (okX9_light (2, .iconst 0, 1) (List.mem_of_getElem? (i := 2) rfl)) rfl ?_
  refine lv_istore_n (lv' := [(3, .int (iI 0)), (2, .int (iI p1)), (0, .ref (sk_ad G 54)), (1, .int (iI p1))]) hx hb (okX9_light (3, .istore_n 3, 1) (List.mem_of_getElem? (i := 3) rfl)) rfl hl (by decide) rfl (fun ls hl => ?_)
  refine lv_iconst (v := iI 0) hx hb (okX9_light (4, .iconst 0, 1) (List.mem_of_getElem? (i := 4) rfl)) rfl ?_
  refine lv_istore (lv' := [(4, .int (iI 0)), (3, .int (iI 0)), (2, .int (iI p1)), (0, .ref (sk_ad G 54)), (1, .int (iI p1))]) hx hb (okX9_light (5, .istore 4, 2) (List.mem_of_getElem? (i := 5) rfl)) hl (by decide) rfl (fun ls hl => ?_)
  exact hJ_7 p1 0 0 I hr_p1 (by decide) (by decide) hM H locs ls hw (lv_sub hl [3, 2, 1, 0] rfl)
def rmX9_load : Room := { frames := 1, cells := 0, slots := 0, locals := 54 }
set_option maxHeartbeats 4000000 in
set_option maxRecDepth 100000 in
theorem c_Show_load (l : Launch) (G : sk_G) {p1 p2 : Int} (hr_p1 : rI p1) (hr_p2 : rI p2) {Q : sk_S → Prop} {I : sk_S} (hM : M_Show_load p1 p2 Q I) : Met l yX9_load wsX9_load rmX9_load (va_Pc [.ref (sk_ad G 54), .int (iI p1), .int (iI p2)] (sk_U G 198 sk_t I)) (sk_Qv G 198 sk_t Q) 0 0 (sk_A G) := by
  refine Met.ofW (cc := cX9_load) (maxL := 3) (ret := none) (by decide) rfl ?_
  intro p e s m args below meth c s₁ B hml hv
  obtain ⟨rfl, hU, hK⟩ := hv
  have hx := B.exec
  have hb := B.bytes
  have hr0 := B.returns
  have hts := atoms_spec (ws := wsX9_load) B.pre
  have hown : s.vm.findClass RX9 = some m.cls := findClass_of_methodNamed B.named
  have hlocks := B.notSynchronized
  have S : CallFix p m c cX9_load 3 s ([.ref (sk_ad G 54), .int (iI p1), .int (iI p2)].toArray) wsX9_load RX9 := ⟨hx, hb, hml, hown, hts⟩
  have hL0 := hts (.fieldLink RX9 27 "SkyLights$Show" "charges" "LSkyLights$Row;") (by decide +kernel)
  have hI9 : ∀ w ∈ u_ws RX9 TX9 5, w ∈ wsX9_load := by decide +kernel
  have hw : sk_W G 198 sk_t I s s.heap [] := ⟨hU, va_S.rf⟩
  have hl := lv_entry ([.ref (sk_ad G 54), .int (iI p1), .int (iI p2)]) (n := 3) (Nat.le_of_ble_eq_true rfl)
  rw [lg_entry_eq]
  generalize (lg_sl ([.ref (sk_ad G 54), .int (iI p1), .int (iI p2)]) ++ List.replicate (3 - (lg_sl ([.ref (sk_ad G 54), .int (iI p1), .int (iI p2)])).length) Slot.unset).toArray = ls at hl ⊢
  have hl : lv_has ls 3 [(0, .ref (sk_ad G 54)), (1, .int (iI p1)), (2, .int (iI p2))] := hl
  suffices hgo : ∀ (H : Heap) (locs : List Loc), sk_W G 198 sk_t I s H locs → W p l e (headSpec wsX9_load rmX9_load).room s m ([.ref (sk_ad G 54), .int (iI p1), .int (iI p2)].toArray) below meth c H locs 0 0 (MQ below (sk_Qv G 198 sk_t Q) ([.ref (sk_ad G 54), .int (iI p1), .int (iI p2)].toArray) s 0 0 (sk_A G)) (F0 m 0 ls []) from hgo _ _ hw
  unfold M_Show_load at hM
  intro H locs hw
  refine lv_aload_n hx hb (okX9_load (0, .aload_n 0, 1) (List.mem_of_getElem? (i := 0) rfl)) rfl (lv_at hl 0 rfl) ?_
  refine sk_getr (b := 63) S hK hw kdn_54 (kd_in kdn_54) (C := RX9) (T := TX9) (N := 5) rfl hI9 2 ⟨by decide, rfl, by decide, rfl⟩ rfl (k' := 2) rfl rfl (by decide +kernel) hL0 (okX9_load (1, .getfield 27, 3) (List.mem_of_getElem? (i := 1) rfl)) ?_
  refine lv_iload_n hx hb (okX9_load (4, .iload_n 1, 1) (List.mem_of_getElem? (i := 2) rfl)) rfl (lv_at hl 1 rfl) ?_
  refine lv_iload_n hx hb (okX9_load (5, .iload_n 2, 1) (List.mem_of_getElem? (i := 3) rfl)) rfl (lv_at hl 2 rfl) ?_
  refine sk_cv (sk_runV (a := 63) (C := RX7) (As := [.int (iI p1), .int (iI p2)]) (rest := []) S (c_Row_put l G kdn_63 hr_p1 hr_p2 hM) sk_blind gX9_load_X7_put rfl hdX7_put ⟨⟨rfl, rfl⟩, Nat.le_of_ble_eq_true rfl, Nat.le_of_ble_eq_true rfl⟩ (sk_recv hK hw kdn_63 (kd_in kdn_63) (by decide) rfl) (sk_pre hK hw) rfl hl.1 rfl (Nat.le_of_ble_eq_true rfl) (okX9_load (6, .invokevirtual 42, 3) (List.mem_of_getElem? (i := 4) rfl)) ⟨Nat.zero_le _, Nat.zero_le _⟩) hw (fun I_6 H locs hM hw => ?_)
  exact sk_vret hx hb hr0 hlocks hK hw hM (okX9_load (9, .return_, 1) (List.mem_of_getElem? (i := 5) rfl))
def rmX9_place : Room := { frames := 2, cells := 0, slots := 0, locals := 106 }
set_option maxHeartbeats 4000000 in
set_option maxRecDepth 100000 in
theorem c_Show_place (l : Launch) (G : sk_G) {p1 p2 : Int} (hr_p1 : rI p1) (hr_p2 : rI p2) {Q : Int → sk_S → Prop} {I : sk_S} (hM : M_Show_place p1 p2 Q I) : Met l yX9_place wsX9_place rmX9_place (va_Pc [.ref (sk_ad G 54), .int (iI p1), .int (iI p2)] (sk_U G 198 sk_t I)) (sk_Qi G 198 sk_t Q) 0 0 (sk_A G) := by
  refine Met.ofW (cc := cX9_place) (maxL := 5) (ret := (some .int)) (by decide) rfl ?_
  intro p e s m args below meth c s₁ B hml hv
  obtain ⟨rfl, hU, hK⟩ := hv
  have hx := B.exec
  have hb := B.bytes
  have hr0 := B.returns
  have hts := atoms_spec (ws := wsX9_place) B.pre
  have hown : s.vm.findClass RX9 = some m.cls := findClass_of_methodNamed B.named
  have hlocks := B.notSynchronized
  have S : CallFix p m c cX9_place 5 s ([.ref (sk_ad G 54), .int (iI p1), .int (iI p2)].toArray) wsX9_place RX9 := ⟨hx, hb, hml, hown, hts⟩
  have hL0 := hts (.fieldLink RX9 31 "SkyLights$Show" "size" "I") (by decide +kernel)
  have hI8 : ∀ w ∈ u_ws RX8 TX8 5, w ∈ wsX9_place := by decide +kernel
  have hI9 : ∀ w ∈ u_ws RX9 TX9 5, w ∈ wsX9_place := by decide +kernel
  have hw : sk_W G 198 sk_t I s s.heap [] := ⟨hU, va_S.rf⟩
  have hl := lv_entry ([.ref (sk_ad G 54), .int (iI p1), .int (iI p2)]) (n := 5) (Nat.le_of_ble_eq_true rfl)
  rw [lg_entry_eq]
  generalize (lg_sl ([.ref (sk_ad G 54), .int (iI p1), .int (iI p2)]) ++ List.replicate (5 - (lg_sl ([.ref (sk_ad G 54), .int (iI p1), .int (iI p2)])).length) Slot.unset).toArray = ls at hl ⊢
  have hl : lv_has ls 5 [(0, .ref (sk_ad G 54)), (1, .int (iI p1)), (2, .int (iI p2))] := hl
  suffices hgo : ∀ (H : Heap) (locs : List Loc), sk_W G 198 sk_t I s H locs → W p l e (headSpec wsX9_place rmX9_place).room s m ([.ref (sk_ad G 54), .int (iI p1), .int (iI p2)].toArray) below meth c H locs 0 0 (MQ below (sk_Qi G 198 sk_t Q) ([.ref (sk_ad G 54), .int (iI p1), .int (iI p2)].toArray) s 0 0 (sk_A G)) (F0 m 0 ls []) from hgo _ _ hw
  have hJ_5 : ∀ (v2 v3 v4 : Int) (I : sk_S), rI v2 → rI v3 → rI v4 → L_Show_place_5 v2 Q v3 v4 I → ∀ (H : Heap) (locs : List Loc) (ls : Array Slot), sk_W G 198 sk_t I s H locs → lv_has ls 5 [(0, .ref (sk_ad G 54)), (2, .int (iI v2)), (3, .int (iI v3)), (4, .int (iI v4))] → W p l e (headSpec wsX9_place rmX9_place).room s m ([.ref (sk_ad G 54), .int (iI p1), .int (iI p2)].toArray) below meth c H locs 0 0 (MQ below (sk_Qi G 198 sk_t Q) ([.ref (sk_ad G 54), .int (iI p1), .int (iI p2)].toArray) s 0 0 (sk_A G)) (F0 m 5 ls []) := by
    intro v2 v3 v4 I hr_v2 hr_v3 hr_v4 hM H locs ls hw hl
    unfold L_Show_place_5 at hM
    obtain ⟨X_5, hX_5⟩ : ∃ X : Int → Int → sk_S → Prop, ∀ (v3 v4 : Int) (I : sk_S), X v3 v4 I ↔ (rI v3 → rI v4 → ∀ (H : Heap) (locs : List Loc) (ls : Array Slot), sk_W G 198 sk_t I s H locs → lv_has ls 5 [(0, .ref (sk_ad G 54)), (2, .int (iI v2)), (3, .int (iI v3)), (4, .int (iI v4))] → W p l e (headSpec wsX9_place rmX9_place).room s m ([.ref (sk_ad G 54), .int (iI p1), .int (iI p2)].toArray) below meth c H locs 0 0 (MQ below (sk_Qi G 198 sk_t Q) ([.ref (sk_ad G 54), .int (iI p1), .int (iI p2)].toArray) s 0 0 (sk_A G)) (F0 m 5 ls [])) := ⟨_, fun _ _ _ => Iff.rfl⟩
    refine (hX_5 v3 v4 I).1 (hM X_5 (fun v3 v4 I hM => (hX_5 v3 v4 I).2 (fun hr_v3 hr_v4 H locs ls hw hl => ?_))) hr_v3 hr_v4 H locs ls hw hl
    refine lv_iload hx hb (okX9_place (5, .iload 4, 2) (List.mem_of_getElem? (i := 4) rfl)) (lv_at hl 3 rfl) ?_
    refine lv_iload_n hx hb (okX9_place (7, .iload_n 2, 1) (List.mem_of_getElem? (i := 5) rfl)) rfl (lv_at hl 1 rfl) ?_
    refine sk_icmp_gt (tgt := 40) hx hb hr_v4 hr_v2 (okX9_place (8, .if_icmp .gt 32, 3) (List.mem_of_getElem? (i := 6) rfl)) (by decide) (fun c8 => ?_) (fun c8 => ?_)
    · have hM := hM.1 c8
      refine lv_iload_n hx hb (okX9_place (40, .iload_n 3, 1) (List.mem_of_getElem? (i := 20) rfl)) rfl (lv_at hl 2 rfl) ?_
      exact sk_iret hx hb hr0 hlocks hK hw hr_v3 hM (okX9_place (41, .ireturn, 1) (List.mem_of_getElem? (i := 21) rfl))
    · have hM := hM.2 c8
      refine lv_iload hx hb (okX9_place (11, .iload 4, 2) (List.mem_of_getElem? (i := 7) rfl)) (lv_at hl 3 rfl) ?_
      refine lv_aload_n hx hb (okX9_place (13, .aload_n 0, 1) (List.mem_of_getElem? (i := 8) rfl)) rfl (lv_at hl 0 rfl) ?_
      have hr1 := hw.1.2.2 54 3
      refine sk_geti S hK hw kdn_54 (kd_in kdn_54) (C := RX9) (T := TX9) (N := 5) rfl hI9 3 ⟨by decide, rfl, by decide, rfl⟩ rfl (k' := 3) rfl hL0 (okX9_place (14, .getfield 31, 3) (List.mem_of_getElem? (i := 9) rfl)) ?_
      refine sk_icmp_ge (tgt := 40) hx hb hr_v4 hr1 (okX9_place (17, .if_icmp .ge 23, 3) (List.mem_of_getElem? (i := 10) rfl)) (by decide) (fun c17 => ?_) (fun c17 => ?_)
      · have hM := hM.1 c17
        refine lv_iload_n hx hb (okX9_place (40, .iload_n 3, 1) (List.mem_of_getElem? (i := 20) rfl)) rfl (lv_at hl 2 rfl) ?_
        exact sk_iret hx hb hr0 hlocks hK hw hr_v3 hM (okX9_place (41, .ireturn, 1) (List.mem_of_getElem? (i := 21) rfl))
      · have hM := hM.2 c17
        refine lv_aload_n hx hb (okX9_place (20, .aload_n 0, 1) (List.mem_of_getElem? (i := 11) rfl)) rfl (lv_at hl 0 rfl) ?_
        refine lv_iload hx hb (okX9_place (21, .iload 4, 2) (List.mem_of_getElem? (i := 12) rfl)) (lv_at hl 3 rfl) ?_
        refine sk_cr (sk_runV (a := 54) (C := RX9) (As := [.int (iI v4)]) (rest := []) S (c_Show_at l G hr_v4 hM) sk_blind gX9_place_X9_at rfl hdX9_at ⟨⟨rfl, rfl⟩, Nat.le_of_ble_eq_true rfl, Nat.le_of_ble_eq_true rfl⟩ (sk_recv hK hw kdn_54 (kd_in kdn_54) (by decide) rfl) (sk_pre hK hw) rfl hl.1 rfl (Nat.le_of_ble_eq_true rfl) (okX9_place (23, .invokevirtual 38, 3) (List.mem_of_getElem? (i := 13) rfl)) ⟨Nat.zero_le _, Nat.zero_le _⟩) hw (fun r_23 I_23 H locs hk_r_23 hM hw => ?_)
        refine sk_getrN (b := (r_23 + 1)) S hK hw hk_r_23 (kd_in hk_r_23) (C := RX8) (T := TX8) (N := 5) rfl hI8 0 ⟨by decide, rfl, by decide, rfl⟩ rfl (k' := 0) rfl rfl (rf80 hk_r_23) (va_Nw.use rfl (hK.2.1 ("SkyLights$Show", 49, "SkyLights$Scene", "way", "LSkyLights$Pass;") (by decide +kernel))) (okX9_place (26, .getfield 49, 3) (List.mem_of_getElem? (i := 14) rfl)) ?_
        refine lv_iload_n hx hb (okX9_place (29, .iload_n 3, 1) (List.mem_of_getElem? (i := 15) rfl)) rfl (lv_at hl 2 rfl) ?_
        refine sk_ci (sk_runV (a := (r_23 + 1)) (C := RX4) (As := [.int (iI v3)]) (rest := []) S (c_Pass_goal l G (k8 hk_r_23).1 hr_v3 hM) sk_blind gX9_place_X4_goal rfl hdX4_goal ⟨⟨rfl, rfl⟩, Nat.le_of_ble_eq_true rfl, Nat.le_of_ble_eq_true rfl⟩ (sk_recv hK hw (k8 hk_r_23).1 (kd_in (k8 hk_r_23).1) (by decide) rfl) (sk_pre hK hw) rfl hl.1 rfl (Nat.le_of_ble_eq_true rfl) (okX9_place (30, .invokevirtual 53, 3) (List.mem_of_getElem? (i := 16) rfl)) ⟨Nat.zero_le _, Nat.zero_le _⟩) hw (fun r_30 I_30 H locs hr_r_30 hM hw => ?_)
        refine lv_istore_n (lv' := [(3, .int (iI r_30)), (0, .ref (sk_ad G 54)), (2, .int (iI v2)), (4, .int (iI v4))]) hx hb (okX9_place (33, .istore_n 3, 1) (List.mem_of_getElem? (i := 17) rfl)) rfl hl (by decide) rfl (fun ls hl => ?_)
        obtain ⟨hr2, hM⟩ := hM
        obtain ⟨v4_34, ev4_34⟩ : ∃ y : Int, y = v4 + 1 := ⟨_, rfl⟩
        have hM := hM v4_34 ev4_34
        have hr_v4_34 : rI v4_34 := by rw [ev4_34]; exact hr2
        refine lv_iinc (v := iI v4_34) (lv' := [(4, .int (iI v4_34)), (3, .int (iI r_30)), (0, .ref (sk_ad G 54)), (2, .int (iI v2))]) hx hb (okX9_place (34, .iinc 4 1, 3) (List.mem_of_getElem? (i := 18) rfl)) hl (k := 3) rfl (by rw [ev4_34]; exact iI_add _ _) (by decide) rfl (fun ls hl => ?_)
        refine lv_goto (tgt := 5) hx hb (okX9_place (37, .goto (-32), 3) (List.mem_of_getElem? (i := 19) rfl)) (by decide) ?_
        exact (hX_5 r_30 v4_34 I_30).1 hM hr_r_30 hr_v4_34 H locs ls hw (lv_sub hl [2, 3, 1, 0] rfl)
  unfold M_Show_place at hM
  intro H locs hw
  refine lv_iload_n hx hb (okX9_place (0, .iload_n 1, 1) (List.mem_of_getElem? (i := 0) rfl)) rfl (lv_at hl 1 rfl) ?_
  refine lv_istore_n (lv' := [(3, .int (iI p1)), (0, .ref (sk_ad G 54)), (1, .int (iI p1)), (2, .int (iI p2))]) hx hb (okX9_place (1, .istore_n 3, 1) (List.mem_of_getElem? (i := 1) rfl)) rfl hl (by decide) rfl (fun ls hl => ?_)
  refine lv_iconst (v := iI 0) hx hb (okX9_place (2, .iconst 0, 1) (List.mem_of_getElem? (i := 2) rfl)) rfl ?_
  refine lv_istore (lv' := [(4, .int (iI 0)), (3, .int (iI p1)), (0, .ref (sk_ad G 54)), (1, .int (iI p1)), (2, .int (iI p2))]) hx hb (okX9_place (3, .istore 4, 2) (List.mem_of_getElem? (i := 3) rfl)) hl (by decide) rfl (fun ls hl => ?_)
  exact hJ_5 p2 p1 0 I hr_p2 hr_p1 (by decide) hM H locs ls hw (lv_sub hl [2, 4, 1, 0] rfl)
def rmX9_pad : Room := { frames := 3, cells := 0, slots := 0, locals := 162 }
set_option maxHeartbeats 4000000 in
set_option maxRecDepth 100000 in
theorem c_Show_pad (l : Launch) (G : sk_G) {p1 : Int} (hr_p1 : rI p1) {Q : Int → sk_S → Prop} {I : sk_S} (hM : M_Show_pad p1 Q I) : Met l yX9_pad wsX9_pad rmX9_pad (va_Pc [.ref (sk_ad G 54), .int (iI p1)] (sk_U G 198 sk_t I)) (sk_Qi G 198 sk_t Q) 0 0 (sk_A G) := by
  refine Met.ofW (cc := cX9_pad) (maxL := 2) (ret := (some .int)) (by decide) rfl ?_
  intro p e s m args below meth c s₁ B hml hv
  obtain ⟨rfl, hU, hK⟩ := hv
  have hx := B.exec
  have hb := B.bytes
  have hr0 := B.returns
  have hts := atoms_spec (ws := wsX9_pad) B.pre
  have hown : s.vm.findClass RX9 = some m.cls := findClass_of_methodNamed B.named
  have hlocks := B.notSynchronized
  have S : CallFix p m c cX9_pad 2 s ([.ref (sk_ad G 54), .int (iI p1)].toArray) wsX9_pad RX9 := ⟨hx, hb, hml, hown, hts⟩
  have hL0 := hts (.fieldLink RX9 31 "SkyLights$Show" "size" "I") (by decide +kernel)
  have hI8 : ∀ w ∈ u_ws RX8 TX8 5, w ∈ wsX9_pad := by decide +kernel
  have hI9 : ∀ w ∈ u_ws RX9 TX9 5, w ∈ wsX9_pad := by decide +kernel
  have hw : sk_W G 198 sk_t I s s.heap [] := ⟨hU, va_S.rf⟩
  have hl := lv_entry ([.ref (sk_ad G 54), .int (iI p1)]) (n := 2) (Nat.le_of_ble_eq_true rfl)
  rw [lg_entry_eq]
  generalize (lg_sl ([.ref (sk_ad G 54), .int (iI p1)]) ++ List.replicate (2 - (lg_sl ([.ref (sk_ad G 54), .int (iI p1)])).length) Slot.unset).toArray = ls at hl ⊢
  have hl : lv_has ls 2 [(0, .ref (sk_ad G 54)), (1, .int (iI p1))] := hl
  suffices hgo : ∀ (H : Heap) (locs : List Loc), sk_W G 198 sk_t I s H locs → W p l e (headSpec wsX9_pad rmX9_pad).room s m ([.ref (sk_ad G 54), .int (iI p1)].toArray) below meth c H locs 0 0 (MQ below (sk_Qi G 198 sk_t Q) ([.ref (sk_ad G 54), .int (iI p1)].toArray) s 0 0 (sk_A G)) (F0 m 0 ls []) from hgo _ _ hw
  unfold M_Show_pad at hM
  intro H locs hw
  refine lv_aload_n hx hb (okX9_pad (0, .aload_n 0, 1) (List.mem_of_getElem? (i := 0) rfl)) rfl (lv_at hl 0 rfl) ?_
  refine lv_aload_n hx hb (okX9_pad (1, .aload_n 0, 1) (List.mem_of_getElem? (i := 1) rfl)) rfl (lv_at hl 0 rfl) ?_
  have hr1 := hw.1.2.2 54 3
  refine sk_geti S hK hw kdn_54 (kd_in kdn_54) (C := RX9) (T := TX9) (N := 5) rfl hI9 3 ⟨by decide, rfl, by decide, rfl⟩ rfl (k' := 3) rfl hL0 (okX9_pad (2, .getfield 31, 3) (List.mem_of_getElem? (i := 2) rfl)) ?_
  refine lv_iconst (v := iI 1) hx hb (okX9_pad (5, .iconst 1, 1) (List.mem_of_getElem? (i := 3) rfl)) rfl ?_
  refine sk_isub hx hb (okX9_pad (6, .isub, 1) (List.mem_of_getElem? (i := 4) rfl)) ?_
  obtain ⟨hr2, hM⟩ := hM
  refine sk_cr (sk_runV (a := 54) (C := RX9) (As := [.int (iI ((I 54 3) - 1))]) (rest := []) S (c_Show_at l G hr2 hM) sk_blind gX9_pad_X9_at rfl hdX9_at ⟨⟨rfl, rfl⟩, Nat.le_of_ble_eq_true rfl, Nat.le_of_ble_eq_true rfl⟩ (sk_recv hK hw kdn_54 (kd_in kdn_54) (by decide) rfl) (sk_pre hK hw) rfl hl.1 rfl (Nat.le_of_ble_eq_true rfl) (okX9_pad (7, .invokevirtual 38, 3) (List.mem_of_getElem? (i := 5) rfl)) ⟨Nat.zero_le _, Nat.zero_le _⟩) hw (fun r_7 I_7 H locs hk_r_7 hM hw => ?_)
  refine sk_getrN (b := (r_7 + 4)) S hK hw hk_r_7 (kd_in hk_r_7) (C := RX8) (T := TX8) (N := 5) rfl hI8 1 ⟨by decide, rfl, by decide, rfl⟩ rfl (k' := 1) rfl rfl (rf81 hk_r_7) (va_Nw.use rfl (hK.2.1 ("SkyLights$Show", 59, "SkyLights$Scene", "home", "LSkyLights$Pass;") (by decide +kernel))) (okX9_pad (10, .getfield 59, 3) (List.mem_of_getElem? (i := 6) rfl)) ?_
  refine lv_aload_n hx hb (okX9_pad (13, .aload_n 0, 1) (List.mem_of_getElem? (i := 7) rfl)) rfl (lv_at hl 0 rfl) ?_
  refine lv_iload_n hx hb (okX9_pad (14, .iload_n 1, 1) (List.mem_of_getElem? (i := 8) rfl)) rfl (lv_at hl 1 rfl) ?_
  refine lv_aload_n hx hb (okX9_pad (15, .aload_n 0, 1) (List.mem_of_getElem? (i := 9) rfl)) rfl (lv_at hl 0 rfl) ?_
  have hr3 := hw.1.2.2 54 3
  refine sk_geti S hK hw kdn_54 (kd_in kdn_54) (C := RX9) (T := TX9) (N := 5) rfl hI9 3 ⟨by decide, rfl, by decide, rfl⟩ rfl (k' := 3) rfl hL0 (okX9_pad (16, .getfield 31, 3) (List.mem_of_getElem? (i := 10) rfl)) ?_
  refine lv_iconst (v := iI 1) hx hb (okX9_pad (19, .iconst 1, 1) (List.mem_of_getElem? (i := 11) rfl)) rfl ?_
  refine sk_isub hx hb (okX9_pad (20, .isub, 1) (List.mem_of_getElem? (i := 12) rfl)) ?_
  obtain ⟨hr4, hM⟩ := hM
  refine sk_ci (sk_runV (a := 54) (C := RX9) (As := [.int (iI p1), .int (iI ((I_7 54 3) - 1))]) (rest := [.ref (sk_ad G (r_7 + 4))]) S (c_Show_place l G hr_p1 hr4 hM) sk_blind gX9_pad_X9_place rfl hdX9_place ⟨⟨rfl, rfl⟩, Nat.le_of_ble_eq_true rfl, Nat.le_of_ble_eq_true rfl⟩ (sk_recv hK hw kdn_54 (kd_in kdn_54) (by decide) rfl) (sk_pre hK hw) rfl hl.1 rfl (Nat.le_of_ble_eq_true rfl) (okX9_pad (21, .invokevirtual 62, 3) (List.mem_of_getElem? (i := 13) rfl)) ⟨Nat.zero_le _, Nat.zero_le _⟩) hw (fun r_21 I_21 H locs hr_r_21 hM hw => ?_)
  refine sk_ci (sk_runV (a := (r_7 + 4)) (C := RX4) (As := [.int (iI r_21)]) (rest := []) S (c_Pass_goal l G (k8 hk_r_7).2 hr_r_21 hM) sk_blind gX9_pad_X4_goal rfl hdX4_goal ⟨⟨rfl, rfl⟩, Nat.le_of_ble_eq_true rfl, Nat.le_of_ble_eq_true rfl⟩ (sk_recv hK hw (k8 hk_r_7).2 (kd_in (k8 hk_r_7).2) (by decide) rfl) (sk_pre hK hw) rfl hl.1 rfl (Nat.le_of_ble_eq_true rfl) (okX9_pad (24, .invokevirtual 53, 3) (List.mem_of_getElem? (i := 14) rfl)) ⟨Nat.zero_le _, Nat.zero_le _⟩) hw (fun r_24 I_24 H locs hr_r_24 hM hw => ?_)
  exact sk_iret hx hb hr0 hlocks hK hw hr_r_24 hM (okX9_pad (27, .ireturn, 1) (List.mem_of_getElem? (i := 15) rfl))
def rmX9_size : Room := { frames := 0, cells := 0, slots := 0, locals := 0 }
set_option maxHeartbeats 4000000 in
set_option maxRecDepth 100000 in
theorem c_Show_size (l : Launch) (G : sk_G) {Q : Int → sk_S → Prop} {I : sk_S} (hM : M_Show_size Q I) : Met l yX9_size wsX9_size rmX9_size (va_Pc [.ref (sk_ad G 54)] (sk_U G 198 sk_t I)) (sk_Qi G 198 sk_t Q) 0 0 (sk_A G) := by
  refine Met.ofW (cc := cX9_size) (maxL := 1) (ret := (some .int)) (by decide) rfl ?_
  intro p e s m args below meth c s₁ B hml hv
  obtain ⟨rfl, hU, hK⟩ := hv
  have hx := B.exec
  have hb := B.bytes
  have hr0 := B.returns
  have hts := atoms_spec (ws := wsX9_size) B.pre
  have hown : s.vm.findClass RX9 = some m.cls := findClass_of_methodNamed B.named
  have hlocks := B.notSynchronized
  have S : CallFix p m c cX9_size 1 s ([.ref (sk_ad G 54)].toArray) wsX9_size RX9 := ⟨hx, hb, hml, hown, hts⟩
  have hL0 := hts (.fieldLink RX9 31 "SkyLights$Show" "size" "I") (by decide +kernel)
  have hI9 : ∀ w ∈ u_ws RX9 TX9 5, w ∈ wsX9_size := by decide +kernel
  have hw : sk_W G 198 sk_t I s s.heap [] := ⟨hU, va_S.rf⟩
  have hl := lv_entry ([.ref (sk_ad G 54)]) (n := 1) (Nat.le_of_ble_eq_true rfl)
  rw [lg_entry_eq]
  generalize (lg_sl ([.ref (sk_ad G 54)]) ++ List.replicate (1 - (lg_sl ([.ref (sk_ad G 54)])).length) Slot.unset).toArray = ls at hl ⊢
  have hl : lv_has ls 1 [(0, .ref (sk_ad G 54))] := hl
  suffices hgo : ∀ (H : Heap) (locs : List Loc), sk_W G 198 sk_t I s H locs → W p l e (headSpec wsX9_size rmX9_size).room s m ([.ref (sk_ad G 54)].toArray) below meth c H locs 0 0 (MQ below (sk_Qi G 198 sk_t Q) ([.ref (sk_ad G 54)].toArray) s 0 0 (sk_A G)) (F0 m 0 ls []) from hgo _ _ hw
  unfold M_Show_size at hM
  intro H locs hw
  refine lv_aload_n hx hb (okX9_size (0, .aload_n 0, 1) (List.mem_of_getElem? (i := 0) rfl)) rfl (lv_at hl 0 rfl) ?_
  have hr1 := hw.1.2.2 54 3
  refine sk_geti S hK hw kdn_54 (kd_in kdn_54) (C := RX9) (T := TX9) (N := 5) rfl hI9 3 ⟨by decide, rfl, by decide, rfl⟩ rfl (k' := 3) rfl hL0 (okX9_size (1, .getfield 31, 3) (List.mem_of_getElem? (i := 1) rfl)) ?_
  exact sk_iret hx hb hr0 hlocks hK hw hr1 hM (okX9_size (4, .ireturn, 1) (List.mem_of_getElem? (i := 2) rfl))
def rmX9_spare : Room := { frames := 1, cells := 0, slots := 0, locals := 53 }
set_option maxHeartbeats 4000000 in
set_option maxRecDepth 100000 in
theorem c_Show_spare (l : Launch) (G : sk_G) {Q : Int → sk_S → Prop} {I : sk_S} (hM : M_Show_spare Q I) : Met l yX9_spare wsX9_spare rmX9_spare (va_Pc [.ref (sk_ad G 54)] (sk_U G 198 sk_t I)) (sk_Qr G 198 sk_t 8 Q) 0 0 (sk_A G) := by
  refine Met.ofW (cc := cX9_spare) (maxL := 1) (ret := (some (.object "SkyLights$Scene"))) (by decide) rfl ?_
  intro p e s m args below meth c s₁ B hml hv
  obtain ⟨rfl, hU, hK⟩ := hv
  have hx := B.exec
  have hb := B.bytes
  have hr0 := B.returns
  have hts := atoms_spec (ws := wsX9_spare) B.pre
  have hown : s.vm.findClass RX9 = some m.cls := findClass_of_methodNamed B.named
  have hlocks := B.notSynchronized
  have S : CallFix p m c cX9_spare 1 s ([.ref (sk_ad G 54)].toArray) wsX9_spare RX9 := ⟨hx, hb, hml, hown, hts⟩
  have hL0 := hts (.fieldLink RX9 31 "SkyLights$Show" "size" "I") (by decide +kernel)
  have hI9 : ∀ w ∈ u_ws RX9 TX9 5, w ∈ wsX9_spare := by decide +kernel
  have hw : sk_W G 198 sk_t I s s.heap [] := ⟨hU, va_S.rf⟩
  have hl := lv_entry ([.ref (sk_ad G 54)]) (n := 1) (Nat.le_of_ble_eq_true rfl)
  rw [lg_entry_eq]
  generalize (lg_sl ([.ref (sk_ad G 54)]) ++ List.replicate (1 - (lg_sl ([.ref (sk_ad G 54)])).length) Slot.unset).toArray = ls at hl ⊢
  have hl : lv_has ls 1 [(0, .ref (sk_ad G 54))] := hl
  suffices hgo : ∀ (H : Heap) (locs : List Loc), sk_W G 198 sk_t I s H locs → W p l e (headSpec wsX9_spare rmX9_spare).room s m ([.ref (sk_ad G 54)].toArray) below meth c H locs 0 0 (MQ below (sk_Qr G 198 sk_t 8 Q) ([.ref (sk_ad G 54)].toArray) s 0 0 (sk_A G)) (F0 m 0 ls []) from hgo _ _ hw
  unfold M_Show_spare at hM
  intro H locs hw
  refine lv_aload_n hx hb (okX9_spare (0, .aload_n 0, 1) (List.mem_of_getElem? (i := 0) rfl)) rfl (lv_at hl 0 rfl) ?_
  refine lv_aload_n hx hb (okX9_spare (1, .aload_n 0, 1) (List.mem_of_getElem? (i := 1) rfl)) rfl (lv_at hl 0 rfl) ?_
  have hr1 := hw.1.2.2 54 3
  refine sk_geti S hK hw kdn_54 (kd_in kdn_54) (C := RX9) (T := TX9) (N := 5) rfl hI9 3 ⟨by decide, rfl, by decide, rfl⟩ rfl (k' := 3) rfl hL0 (okX9_spare (2, .getfield 31, 3) (List.mem_of_getElem? (i := 2) rfl)) ?_
  refine sk_cr (sk_runV (a := 54) (C := RX9) (As := [.int (iI (I 54 3))]) (rest := []) S (c_Show_at l G hr1 hM) sk_blind gX9_spare_X9_at rfl hdX9_at ⟨⟨rfl, rfl⟩, Nat.le_of_ble_eq_true rfl, Nat.le_of_ble_eq_true rfl⟩ (sk_recv hK hw kdn_54 (kd_in kdn_54) (by decide) rfl) (sk_pre hK hw) rfl hl.1 rfl (Nat.le_of_ble_eq_true rfl) (okX9_spare (5, .invokevirtual 38, 3) (List.mem_of_getElem? (i := 3) rfl)) ⟨Nat.zero_le _, Nat.zero_le _⟩) hw (fun r_5 I_5 H locs hk_r_5 hM hw => ?_)
  exact sk_aret hx hb hr0 ⟨_, rfl⟩ hlocks hK hw hk_r_5 hM (okX9_spare (8, .areturn, 1) (List.mem_of_getElem? (i := 4) rfl))
def rmX9_ticks : Room := { frames := 2, cells := 0, slots := 0, locals := 104 }
set_option maxHeartbeats 4000000 in
set_option maxRecDepth 100000 in
theorem c_Show_ticks (l : Launch) (G : sk_G) {Q : Int → sk_S → Prop} {I : sk_S} (hM : M_Show_ticks Q I) : Met l yX9_ticks wsX9_ticks rmX9_ticks (va_Pc [.ref (sk_ad G 54)] (sk_U G 198 sk_t I)) (sk_Qi G 198 sk_t Q) 0 0 (sk_A G) := by
  refine Met.ofW (cc := cX9_ticks) (maxL := 3) (ret := (some .int)) (by decide) rfl ?_
  intro p e s m args below meth c s₁ B hml hv
  obtain ⟨rfl, hU, hK⟩ := hv
  have hx := B.exec
  have hb := B.bytes
  have hr0 := B.returns
  have hts := atoms_spec (ws := wsX9_ticks) B.pre
  have hown : s.vm.findClass RX9 = some m.cls := findClass_of_methodNamed B.named
  have hlocks := B.notSynchronized
  have S : CallFix p m c cX9_ticks 3 s ([.ref (sk_ad G 54)].toArray) wsX9_ticks RX9 := ⟨hx, hb, hml, hown, hts⟩
  have hL0 := hts (.fieldLink RX9 31 "SkyLights$Show" "size" "I") (by decide +kernel)
  have hI8 : ∀ w ∈ u_ws RX8 TX8 5, w ∈ wsX9_ticks := by decide +kernel
  have hI9 : ∀ w ∈ u_ws RX9 TX9 5, w ∈ wsX9_ticks := by decide +kernel
  have hw : sk_W G 198 sk_t I s s.heap [] := ⟨hU, va_S.rf⟩
  have hl := lv_entry ([.ref (sk_ad G 54)]) (n := 3) (Nat.le_of_ble_eq_true rfl)
  rw [lg_entry_eq]
  generalize (lg_sl ([.ref (sk_ad G 54)]) ++ List.replicate (3 - (lg_sl ([.ref (sk_ad G 54)])).length) Slot.unset).toArray = ls at hl ⊢
  have hl : lv_has ls 3 [(0, .ref (sk_ad G 54))] := hl
  suffices hgo : ∀ (H : Heap) (locs : List Loc), sk_W G 198 sk_t I s H locs → W p l e (headSpec wsX9_ticks rmX9_ticks).room s m ([.ref (sk_ad G 54)].toArray) below meth c H locs 0 0 (MQ below (sk_Qi G 198 sk_t Q) ([.ref (sk_ad G 54)].toArray) s 0 0 (sk_A G)) (F0 m 0 ls []) from hgo _ _ hw
  have hJ_29 : ∀ (v1 : Int) (I : sk_S), rI v1 → J_Show_ticks_29 v1 Q I → ∀ (H : Heap) (locs : List Loc) (ls : Array Slot), sk_W G 198 sk_t I s H locs → lv_has ls 3 [(0, .ref (sk_ad G 54)), (1, .int (iI v1))] → W p l e (headSpec wsX9_ticks rmX9_ticks).room s m ([.ref (sk_ad G 54)].toArray) below meth c H locs 0 0 (MQ below (sk_Qi G 198 sk_t Q) ([.ref (sk_ad G 54)].toArray) s 0 0 (sk_A G)) (F0 m 29 ls []) := by
    intro v1 I hr_v1 hM H locs ls hw hl
    unfold J_Show_ticks_29 at hM
    refine lv_aload_n hx hb (okX9_ticks (29, .aload_n 0, 1) (List.mem_of_getElem? (i := 17) rfl)) rfl (lv_at hl 0 rfl) ?_
    have hr4 := hw.1.2.2 54 3
    refine sk_geti S hK hw kdn_54 (kd_in kdn_54) (C := RX9) (T := TX9) (N := 5) rfl hI9 3 ⟨by decide, rfl, by decide, rfl⟩ rfl (k' := 3) rfl hL0 (okX9_ticks (30, .getfield 31, 3) (List.mem_of_getElem? (i := 18) rfl)) ?_
    refine sk_if_le (tgt := 57) hx hb hr4 (okX9_ticks (33, .ifCond .le 24, 3) (List.mem_of_getElem? (i := 19) rfl)) (by decide) (fun c33 => ?_) (fun c33 => ?_)
    · have hM := hM.1 c33
      refine lv_iconst (v := iI 0) hx hb (okX9_ticks (57, .iconst 0, 1) (List.mem_of_getElem? (i := 31) rfl)) rfl ?_
      exact sk_iret hx hb hr0 hlocks hK hw (by decide) hM (okX9_ticks (58, .ireturn, 1) (List.mem_of_getElem? (i := 32) rfl))
    · have hM := hM.2 c33
      refine lv_iload_n hx hb (okX9_ticks (36, .iload_n 1, 1) (List.mem_of_getElem? (i := 20) rfl)) rfl (lv_at hl 1 rfl) ?_
      refine lv_aload_n hx hb (okX9_ticks (37, .aload_n 0, 1) (List.mem_of_getElem? (i := 21) rfl)) rfl (lv_at hl 0 rfl) ?_
      refine lv_aload_n hx hb (okX9_ticks (38, .aload_n 0, 1) (List.mem_of_getElem? (i := 22) rfl)) rfl (lv_at hl 0 rfl) ?_
      have hr5 := hw.1.2.2 54 3
      refine sk_geti S hK hw kdn_54 (kd_in kdn_54) (C := RX9) (T := TX9) (N := 5) rfl hI9 3 ⟨by decide, rfl, by decide, rfl⟩ rfl (k' := 3) rfl hL0 (okX9_ticks (39, .getfield 31, 3) (List.mem_of_getElem? (i := 23) rfl)) ?_
      refine lv_iconst (v := iI 1) hx hb (okX9_ticks (42, .iconst 1, 1) (List.mem_of_getElem? (i := 24) rfl)) rfl ?_
      refine sk_isub hx hb (okX9_ticks (43, .isub, 1) (List.mem_of_getElem? (i := 25) rfl)) ?_
      obtain ⟨hr6, hM⟩ := hM
      refine sk_cr (sk_runV (a := 54) (C := RX9) (As := [.int (iI ((I 54 3) - 1))]) (rest := [.int (iI v1)]) S (c_Show_at l G hr6 hM) sk_blind gX9_ticks_X9_at rfl hdX9_at ⟨⟨rfl, rfl⟩, Nat.le_of_ble_eq_true rfl, Nat.le_of_ble_eq_true rfl⟩ (sk_recv hK hw kdn_54 (kd_in kdn_54) (by decide) rfl) (sk_pre hK hw) rfl hl.1 rfl (Nat.le_of_ble_eq_true rfl) (okX9_ticks (44, .invokevirtual 38, 3) (List.mem_of_getElem? (i := 26) rfl)) ⟨Nat.zero_le _, Nat.zero_le _⟩) hw (fun r_44 I_44 H locs hk_r_44 hM hw => ?_)
      refine sk_getrN (b := (r_44 + 4)) S hK hw hk_r_44 (kd_in hk_r_44) (C := RX8) (T := TX8) (N := 5) rfl hI8 1 ⟨by decide, rfl, by decide, rfl⟩ rfl (k' := 1) rfl rfl (rf81 hk_r_44) (va_Nw.use rfl (hK.2.1 ("SkyLights$Show", 59, "SkyLights$Scene", "home", "LSkyLights$Pass;") (by decide +kernel))) (okX9_ticks (47, .getfield 59, 3) (List.mem_of_getElem? (i := 27) rfl)) ?_
      refine sk_ci (sk_runV (a := (r_44 + 4)) (C := RX4) (As := []) (rest := [.int (iI v1)]) S (c_Pass_ticks l G (k8 hk_r_44).2 hM) sk_blind gX9_ticks_X4_ticks rfl hdX4_ticks ⟨⟨rfl, rfl⟩, Nat.le_of_ble_eq_true rfl, Nat.le_of_ble_eq_true rfl⟩ (sk_recv hK hw (k8 hk_r_44).2 (kd_in (k8 hk_r_44).2) (by decide) rfl) (sk_pre hK hw) rfl hl.1 rfl (Nat.le_of_ble_eq_true rfl) (okX9_ticks (50, .invokevirtual 70, 3) (List.mem_of_getElem? (i := 28) rfl)) ⟨Nat.zero_le _, Nat.zero_le _⟩) hw (fun r_50 I_50 H locs hr_r_50 hM hw => ?_)
      refine sk_iadd hx hb (okX9_ticks (53, .iadd, 1) (List.mem_of_getElem? (i := 29) rfl)) ?_
      refine lv_goto (tgt := 58) hx hb (okX9_ticks (54, .goto 4, 3) (List.mem_of_getElem? (i := 30) rfl)) (by decide) ?_
      obtain ⟨hr7, hM⟩ := hM
      exact sk_iret hx hb hr0 hlocks hK hw hr7 hM (okX9_ticks (58, .ireturn, 1) (List.mem_of_getElem? (i := 32) rfl))
  have hJ_4 : ∀ (v1 v2 : Int) (I : sk_S), rI v1 → rI v2 → L_Show_ticks_4 Q v1 v2 I → ∀ (H : Heap) (locs : List Loc) (ls : Array Slot), sk_W G 198 sk_t I s H locs → lv_has ls 3 [(0, .ref (sk_ad G 54)), (1, .int (iI v1)), (2, .int (iI v2))] → W p l e (headSpec wsX9_ticks rmX9_ticks).room s m ([.ref (sk_ad G 54)].toArray) below meth c H locs 0 0 (MQ below (sk_Qi G 198 sk_t Q) ([.ref (sk_ad G 54)].toArray) s 0 0 (sk_A G)) (F0 m 4 ls []) := by
    intro v1 v2 I hr_v1 hr_v2 hM H locs ls hw hl
    unfold L_Show_ticks_4 at hM
    obtain ⟨X_4, hX_4⟩ : ∃ X : Int → Int → sk_S → Prop, ∀ (v1 v2 : Int) (I : sk_S), X v1 v2 I ↔ (rI v1 → rI v2 → ∀ (H : Heap) (locs : List Loc) (ls : Array Slot), sk_W G 198 sk_t I s H locs → lv_has ls 3 [(0, .ref (sk_ad G 54)), (1, .int (iI v1)), (2, .int (iI v2))] → W p l e (headSpec wsX9_ticks rmX9_ticks).room s m ([.ref (sk_ad G 54)].toArray) below meth c H locs 0 0 (MQ below (sk_Qi G 198 sk_t Q) ([.ref (sk_ad G 54)].toArray) s 0 0 (sk_A G)) (F0 m 4 ls [])) := ⟨_, fun _ _ _ => Iff.rfl⟩
    refine (hX_4 v1 v2 I).1 (hM X_4 (fun v1 v2 I hM => (hX_4 v1 v2 I).2 (fun hr_v1 hr_v2 H locs ls hw hl => ?_))) hr_v1 hr_v2 H locs ls hw hl
    refine lv_iload_n hx hb (okX9_ticks (4, .iload_n 2, 1) (List.mem_of_getElem? (i := 4) rfl)) rfl (lv_at hl 2 rfl) ?_
    refine lv_aload_n hx hb (okX9_ticks (5, .aload_n 0, 1) (List.mem_of_getElem? (i := 5) rfl)) rfl (lv_at hl 0 rfl) ?_
    have hr1 := hw.1.2.2 54 3
    refine sk_geti S hK hw kdn_54 (kd_in kdn_54) (C := RX9) (T := TX9) (N := 5) rfl hI9 3 ⟨by decide, rfl, by decide, rfl⟩ rfl (k' := 3) rfl hL0 (okX9_ticks (6, .getfield 31, 3) (List.mem_of_getElem? (i := 6) rfl)) ?_
    refine sk_icmp_ge (tgt := 29) hx hb hr_v2 hr1 (okX9_ticks (9, .if_icmp .ge 20, 3) (List.mem_of_getElem? (i := 7) rfl)) (by decide) (fun c9 => ?_) (fun c9 => ?_)
    · have hM := hM.1 c9
      exact hJ_29 v1 I hr_v1 hM H locs ls hw (lv_sub hl [0, 1] rfl)
    · have hM := hM.2 c9
      refine lv_iload_n hx hb (okX9_ticks (12, .iload_n 1, 1) (List.mem_of_getElem? (i := 8) rfl)) rfl (lv_at hl 1 rfl) ?_
      refine lv_aload_n hx hb (okX9_ticks (13, .aload_n 0, 1) (List.mem_of_getElem? (i := 9) rfl)) rfl (lv_at hl 0 rfl) ?_
      refine lv_iload_n hx hb (okX9_ticks (14, .iload_n 2, 1) (List.mem_of_getElem? (i := 10) rfl)) rfl (lv_at hl 2 rfl) ?_
      refine sk_cr (sk_runV (a := 54) (C := RX9) (As := [.int (iI v2)]) (rest := [.int (iI v1)]) S (c_Show_at l G hr_v2 hM) sk_blind gX9_ticks_X9_at rfl hdX9_at ⟨⟨rfl, rfl⟩, Nat.le_of_ble_eq_true rfl, Nat.le_of_ble_eq_true rfl⟩ (sk_recv hK hw kdn_54 (kd_in kdn_54) (by decide) rfl) (sk_pre hK hw) rfl hl.1 rfl (Nat.le_of_ble_eq_true rfl) (okX9_ticks (15, .invokevirtual 38, 3) (List.mem_of_getElem? (i := 11) rfl)) ⟨Nat.zero_le _, Nat.zero_le _⟩) hw (fun r_15 I_15 H locs hk_r_15 hM hw => ?_)
      refine sk_ci (sk_runV (a := r_15) (C := RX8) (As := []) (rest := [.int (iI v1)]) S (c_Scene_ticks l G hk_r_15 hM) sk_blind gX9_ticks_X8_ticks rfl hdX8_ticks ⟨⟨rfl, rfl⟩, Nat.le_of_ble_eq_true rfl, Nat.le_of_ble_eq_true rfl⟩ (sk_recv hK hw hk_r_15 (kd_in hk_r_15) (by decide) rfl) (sk_pre hK hw) rfl hl.1 rfl (Nat.le_of_ble_eq_true rfl) (okX9_ticks (18, .invokevirtual 66, 3) (List.mem_of_getElem? (i := 12) rfl)) ⟨Nat.zero_le _, Nat.zero_le _⟩) hw (fun r_18 I_18 H locs hr_r_18 hM hw => ?_)
      refine sk_iadd hx hb (okX9_ticks (21, .iadd, 1) (List.mem_of_getElem? (i := 13) rfl)) ?_
      obtain ⟨hr2, hM⟩ := hM
      refine sk_nm (fun v1_22 ev1_22 => ?_)
      have hM := hM v1_22 ev1_22
      have hr_v1_22 : rI v1_22 := by rw [ev1_22]; exact hr2
      refine lv_istore_n (lv' := [(1, .int (iI v1_22)), (0, .ref (sk_ad G 54)), (2, .int (iI v2))]) hx hb (okX9_ticks (22, .istore_n 1, 1) (List.mem_of_getElem? (i := 14) rfl)) rfl hl (by decide) rfl (fun ls hl => ?_)
      obtain ⟨hr3, hM⟩ := hM
      obtain ⟨v2_23, ev2_23⟩ : ∃ y : Int, y = v2 + 1 := ⟨_, rfl⟩
      have hM := hM v2_23 ev2_23
      have hr_v2_23 : rI v2_23 := by rw [ev2_23]; exact hr3
      refine lv_iinc (v := iI v2_23) (lv' := [(2, .int (iI v2_23)), (1, .int (iI v1_22)), (0, .ref (sk_ad G 54))]) hx hb (okX9_ticks (23, .iinc 2 1, 3) (List.mem_of_getElem? (i := 15) rfl)) hl (k := 2) rfl (by rw [ev2_23]; exact iI_add _ _) (by decide) rfl (fun ls hl => ?_)
      refine lv_goto (tgt := 4) hx hb (okX9_ticks (26, .goto (-22), 3) (List.mem_of_getElem? (i := 16) rfl)) (by decide) ?_
      exact (hX_4 v1_22 v2_23 I_18).1 hM hr_v1_22 hr_v2_23 H locs ls hw (lv_sub hl [2, 1, 0] rfl)
  unfold M_Show_ticks at hM
  intro H locs hw
  refine lv_iconst (v := iI 0) hx hb (okX9_ticks (0, .iconst 0, 1) (List.mem_of_getElem? (i := 0) rfl)) rfl ?_
  refine lv_istore_n (lv' := [(1, .int (iI 0)), (0, .ref (sk_ad G 54))]) hx hb (okX9_ticks (1, .istore_n 1, 1) (List.mem_of_getElem? (i := 1) rfl)) rfl hl (by decide) rfl (fun ls hl => ?_)
  refine lv_iconst (v := iI 0) hx hb (okX9_ticks (2, .iconst 0, 1) (List.mem_of_getElem? (i := 2) rfl)) rfl ?_
  refine lv_istore_n (lv' := [(2, .int (iI 0)), (1, .int (iI 0)), (0, .ref (sk_ad G 54))]) hx hb (okX9_ticks (3, .istore_n 2, 1) (List.mem_of_getElem? (i := 3) rfl)) rfl hl (by decide) rfl (fun ls hl => ?_)
  exact hJ_4 0 0 I (by decide) (by decide) hM H locs ls hw (lv_sub hl [2, 1, 0] rfl)
def rmX10_add : Room := { frames := 1, cells := 0, slots := 0, locals := 54 }
set_option maxHeartbeats 4000000 in
set_option maxRecDepth 100000 in
theorem c_Tape_add (l : Launch) (G : sk_G) {p1 p3 : Int} (hr_p1 : rL p1) (hr_p3 : rI p3) {Q : sk_S → Prop} {I : sk_S} (hM : M_Tape_add p1 p3 Q I) : Met l yX10_add wsX10_add rmX10_add (va_Pc [.ref (sk_ad G 1), .long (lI p1), .int (iI p3)] (sk_U G 198 sk_t I)) (sk_Qv G 198 sk_t Q) 0 0 (sk_A G) := by
  refine Met.ofW (cc := cX10_add) (maxL := 5) (ret := none) (by decide) rfl ?_
  intro p e s m args below meth c s₁ B hml hv
  obtain ⟨rfl, hU, hK⟩ := hv
  have hx := B.exec
  have hb := B.bytes
  have hr0 := B.returns
  have hts := atoms_spec (ws := wsX10_add) B.pre
  have hown : s.vm.findClass RX10 = some m.cls := findClass_of_methodNamed B.named
  have hlocks := B.notSynchronized
  have S : CallFix p m c cX10_add 5 s ([.ref (sk_ad G 1), .long (lI p1), .int (iI p3)].toArray) wsX10_add RX10 := ⟨hx, hb, hml, hown, hts⟩
  have hL0 := hts (.fieldLink RX10 14 "SkyLights$Tape" "bytes" "LSkyLights$Row;") (by decide +kernel)
  have hL1 := hts (.fieldLink RX10 20 "SkyLights$Tape" "size" "I") (by decide +kernel)
  have hL2 := hts (.constantLong RX10 31 (255)) (by decide +kernel)
  have hI10 : ∀ w ∈ u_ws RX10 TX10 4, w ∈ wsX10_add := by decide +kernel
  have hw : sk_W G 198 sk_t I s s.heap [] := ⟨hU, va_S.rf⟩
  have hl := lv_entry ([.ref (sk_ad G 1), .long (lI p1), .int (iI p3)]) (n := 5) (Nat.le_of_ble_eq_true rfl)
  rw [lg_entry_eq]
  generalize (lg_sl ([.ref (sk_ad G 1), .long (lI p1), .int (iI p3)]) ++ List.replicate (5 - (lg_sl ([.ref (sk_ad G 1), .long (lI p1), .int (iI p3)])).length) Slot.unset).toArray = ls at hl ⊢
  have hl : lv_has ls 5 [(0, .ref (sk_ad G 1)), (1, .long (lI p1)), (3, .int (iI p3))] := hl
  suffices hgo : ∀ (H : Heap) (locs : List Loc), sk_W G 198 sk_t I s H locs → W p l e (headSpec wsX10_add rmX10_add).room s m ([.ref (sk_ad G 1), .long (lI p1), .int (iI p3)].toArray) below meth c H locs 0 0 (MQ below (sk_Qv G 198 sk_t Q) ([.ref (sk_ad G 1), .long (lI p1), .int (iI p3)].toArray) s 0 0 (sk_A G)) (F0 m 0 ls []) from hgo _ _ hw
  have hJ_5 : ∀ (v1 v4 : Int) (I : sk_S), rL v1 → rI v4 → L_Tape_add_5 v1 Q v4 I → ∀ (H : Heap) (locs : List Loc) (ls : Array Slot), sk_W G 198 sk_t I s H locs → lv_has ls 5 [(0, .ref (sk_ad G 1)), (1, .long (lI v1)), (4, .int (iI v4))] → W p l e (headSpec wsX10_add rmX10_add).room s m ([.ref (sk_ad G 1), .long (lI p1), .int (iI p3)].toArray) below meth c H locs 0 0 (MQ below (sk_Qv G 198 sk_t Q) ([.ref (sk_ad G 1), .long (lI p1), .int (iI p3)].toArray) s 0 0 (sk_A G)) (F0 m 5 ls []) := by
    intro v1 v4 I hr_v1 hr_v4 hM H locs ls hw hl
    unfold L_Tape_add_5 at hM
    obtain ⟨X_5, hX_5⟩ : ∃ X : Int → sk_S → Prop, ∀ (v4 : Int) (I : sk_S), X v4 I ↔ (rI v4 → ∀ (H : Heap) (locs : List Loc) (ls : Array Slot), sk_W G 198 sk_t I s H locs → lv_has ls 5 [(0, .ref (sk_ad G 1)), (1, .long (lI v1)), (4, .int (iI v4))] → W p l e (headSpec wsX10_add rmX10_add).room s m ([.ref (sk_ad G 1), .long (lI p1), .int (iI p3)].toArray) below meth c H locs 0 0 (MQ below (sk_Qv G 198 sk_t Q) ([.ref (sk_ad G 1), .long (lI p1), .int (iI p3)].toArray) s 0 0 (sk_A G)) (F0 m 5 ls [])) := ⟨_, fun _ _ => Iff.rfl⟩
    refine (hX_5 v4 I).1 (hM X_5 (fun v4 I hM => (hX_5 v4 I).2 (fun hr_v4 H locs ls hw hl => ?_))) hr_v4 H locs ls hw hl
    refine lv_iload hx hb (okX10_add (5, .iload 4, 2) (List.mem_of_getElem? (i := 4) rfl)) (lv_at hl 2 rfl) ?_
    refine sk_if_lt (tgt := 49) hx hb hr_v4 (okX10_add (7, .ifCond .lt 42, 3) (List.mem_of_getElem? (i := 5) rfl)) (by decide) (fun c7 => ?_) (fun c7 => ?_)
    · have hM := hM.1 c7
      exact sk_vret hx hb hr0 hlocks hK hw hM (okX10_add (49, .return_, 1) (List.mem_of_getElem? (i := 27) rfl))
    · have hM := hM.2 c7
      refine lv_aload_n hx hb (okX10_add (10, .aload_n 0, 1) (List.mem_of_getElem? (i := 6) rfl)) rfl (lv_at hl 0 rfl) ?_
      refine sk_getr (b := 2) S hK hw kdn_1 (kd_in kdn_1) (C := RX10) (T := TX10) (N := 4) rfl hI10 0 ⟨by decide, rfl, by decide, rfl⟩ rfl (k' := 0) rfl rfl (by decide +kernel) hL0 (okX10_add (11, .getfield 14, 3) (List.mem_of_getElem? (i := 7) rfl)) ?_
      refine lv_aload_n hx hb (okX10_add (14, .aload_n 0, 1) (List.mem_of_getElem? (i := 8) rfl)) rfl (lv_at hl 0 rfl) ?_
      have hr2 := hw.1.2.2 1 1
      refine sk_geti S hK hw kdn_1 (kd_in kdn_1) (C := RX10) (T := TX10) (N := 4) rfl hI10 1 ⟨by decide, rfl, by decide, rfl⟩ rfl (k' := 1) rfl hL1 (okX10_add (15, .getfield 20, 3) (List.mem_of_getElem? (i := 9) rfl)) ?_
      refine lv_lload_n hx hb (okX10_add (18, .lload_n 1, 1) (List.mem_of_getElem? (i := 10) rfl)) rfl (lv_at hl 1 rfl) ?_
      refine lv_bipush (v := iI 8) hx hb (okX10_add (19, .bipush 8, 2) (List.mem_of_getElem? (i := 11) rfl)) (by decide +kernel) ?_
      refine lv_iload hx hb (okX10_add (21, .iload 4, 2) (List.mem_of_getElem? (i := 12) rfl)) (lv_at hl 2 rfl) ?_
      refine sk_imul hx hb (okX10_add (23, .imul, 1) (List.mem_of_getElem? (i := 13) rfl)) ?_
      refine sk_lushr hx hb (okX10_add (24, .lushr, 1) (List.mem_of_getElem? (i := 14) rfl)) ?_
      refine lv_ldc2 (v := lI 255) hx hb hown (by rw [show lI 255 = (255 : Int64) from by decide +kernel]; exact hL2) (okX10_add (25, .ldc2_w 31, 3) (List.mem_of_getElem? (i := 15) rfl)) ?_
      refine sk_land hx hb (okX10_add (28, .land, 1) (List.mem_of_getElem? (i := 16) rfl)) ?_
      refine sk_l2i hx hb (okX10_add (29, .l2i, 1) (List.mem_of_getElem? (i := 17) rfl)) ?_
      refine sk_cv (sk_runV (a := 2) (C := RX7) (As := [.int (iI (I 1 1)), .int (iI (l2i (land (lushr v1 (8 * v4)) 255)))]) (rest := []) S (c_Row_put l G kdn_2 hr2 (rI_of _) hM) sk_blind gX10_add_X7_put rfl hdX7_put ⟨⟨rfl, rfl⟩, Nat.le_of_ble_eq_true rfl, Nat.le_of_ble_eq_true rfl⟩ (sk_recv hK hw kdn_2 (kd_in kdn_2) (by decide) rfl) (sk_pre hK hw) rfl hl.1 rfl (Nat.le_of_ble_eq_true rfl) (okX10_add (30, .invokevirtual 33, 3) (List.mem_of_getElem? (i := 18) rfl)) ⟨Nat.zero_le _, Nat.zero_le _⟩) hw (fun I_30 H locs hM hw => ?_)
      refine lv_aload_n hx hb (okX10_add (33, .aload_n 0, 1) (List.mem_of_getElem? (i := 19) rfl)) rfl (lv_at hl 0 rfl) ?_
      refine lv_dup hx hb (okX10_add (34, .dup, 1) (List.mem_of_getElem? (i := 20) rfl)) rfl ?_
      have hr3 := hw.1.2.2 1 1
      refine sk_geti S hK hw kdn_1 (kd_in kdn_1) (C := RX10) (T := TX10) (N := 4) rfl hI10 1 ⟨by decide, rfl, by decide, rfl⟩ rfl (k' := 1) rfl hL1 (okX10_add (35, .getfield 20, 3) (List.mem_of_getElem? (i := 21) rfl)) ?_
      refine lv_iconst (v := iI 1) hx hb (okX10_add (38, .iconst 1, 1) (List.mem_of_getElem? (i := 22) rfl)) rfl ?_
      refine sk_iadd hx hb (okX10_add (39, .iadd, 1) (List.mem_of_getElem? (i := 23) rfl)) ?_
      obtain ⟨hr4, hM⟩ := hM
      refine sk_put S hK hw kdn_1 (kd_in kdn_1) (C := RX10) (T := TX10) (N := 4) rfl hI10 tyX10 tyX10_ok nmX10 1 ⟨by decide, rfl, by decide, rfl⟩ rfl rfl (k' := 1) rfl hr4 ⟨rfl, rfl⟩ hL1 (okX10_add (40, .putfield 20, 3) (List.mem_of_getElem? (i := 24) rfl)) (fun H locs hw => ?_)
      obtain ⟨hr5, hM⟩ := hM
      obtain ⟨v4_43, ev4_43⟩ : ∃ y : Int, y = v4 + (-1) := ⟨_, rfl⟩
      have hM := hM v4_43 ev4_43
      have hr_v4_43 : rI v4_43 := by rw [ev4_43]; exact hr5
      refine lv_iinc (v := iI v4_43) (lv' := [(4, .int (iI v4_43)), (0, .ref (sk_ad G 1)), (1, .long (lI v1))]) hx hb (okX10_add (43, .iinc 4 (-1), 3) (List.mem_of_getElem? (i := 25) rfl)) hl (k := 2) rfl (by rw [ev4_43]; exact iI_add _ _) (by decide) rfl (fun ls hl => ?_)
      refine lv_goto (tgt := 5) hx hb (okX10_add (46, .goto (-41), 3) (List.mem_of_getElem? (i := 26) rfl)) (by decide) ?_
      exact (hX_5 v4_43 (up I_30 1 1 ((I_30 1 1) + 1))).1 hM hr_v4_43 H locs ls hw (lv_sub hl [1, 2, 0] rfl)
  unfold M_Tape_add at hM
  intro H locs hw
  refine lv_iload_n hx hb (okX10_add (0, .iload_n 3, 1) (List.mem_of_getElem? (i := 0) rfl)) rfl (lv_at hl 2 rfl) ?_
  refine lv_iconst (v := iI 1) hx hb (okX10_add (1, .iconst 1, 1) (List.mem_of_getElem? (i := 1) rfl)) rfl ?_
  refine sk_isub hx hb (okX10_add (2, .isub, 1) (List.mem_of_getElem? (i := 2) rfl)) ?_
  obtain ⟨hr1, hM⟩ := hM
  refine sk_nm (fun v4_3 ev4_3 => ?_)
  have hM := hM v4_3 ev4_3
  have hr_v4_3 : rI v4_3 := by rw [ev4_3]; exact hr1
  refine lv_istore (lv' := [(4, .int (iI v4_3)), (0, .ref (sk_ad G 1)), (1, .long (lI p1)), (3, .int (iI p3))]) hx hb (okX10_add (3, .istore 4, 2) (List.mem_of_getElem? (i := 3) rfl)) hl (by decide) rfl (fun ls hl => ?_)
  exact hJ_5 p1 v4_3 I hr_p1 hr_v4_3 hM H locs ls hw (lv_sub hl [1, 2, 0] rfl)
def rmX10_byteHere : Room := { frames := 1, cells := 0, slots := 0, locals := 53 }
set_option maxHeartbeats 4000000 in
set_option maxRecDepth 100000 in
theorem c_Tape_byteHere (l : Launch) (G : sk_G) {Q : Int → sk_S → Prop} {I : sk_S} (hM : M_Tape_byteHere Q I) : Met l yX10_byteHere wsX10_byteHere rmX10_byteHere (va_Pc [.ref (sk_ad G 1)] (sk_U G 198 sk_t I)) (sk_Qi G 198 sk_t Q) 0 0 (sk_A G) := by
  refine Met.ofW (cc := cX10_byteHere) (maxL := 1) (ret := (some .int)) (by decide) rfl ?_
  intro p e s m args below meth c s₁ B hml hv
  obtain ⟨rfl, hU, hK⟩ := hv
  have hx := B.exec
  have hb := B.bytes
  have hr0 := B.returns
  have hts := atoms_spec (ws := wsX10_byteHere) B.pre
  have hown : s.vm.findClass RX10 = some m.cls := findClass_of_methodNamed B.named
  have hlocks := B.notSynchronized
  have S : CallFix p m c cX10_byteHere 1 s ([.ref (sk_ad G 1)].toArray) wsX10_byteHere RX10 := ⟨hx, hb, hml, hown, hts⟩
  have hL0 := hts (.fieldLink RX10 24 "SkyLights$Tape" "place" "I") (by decide +kernel)
  have hL1 := hts (.fieldLink RX10 20 "SkyLights$Tape" "size" "I") (by decide +kernel)
  have hL2 := hts (.fieldLink RX10 14 "SkyLights$Tape" "bytes" "LSkyLights$Row;") (by decide +kernel)
  have hI10 : ∀ w ∈ u_ws RX10 TX10 4, w ∈ wsX10_byteHere := by decide +kernel
  have hw : sk_W G 198 sk_t I s s.heap [] := ⟨hU, va_S.rf⟩
  have hl := lv_entry ([.ref (sk_ad G 1)]) (n := 1) (Nat.le_of_ble_eq_true rfl)
  rw [lg_entry_eq]
  generalize (lg_sl ([.ref (sk_ad G 1)]) ++ List.replicate (1 - (lg_sl ([.ref (sk_ad G 1)])).length) Slot.unset).toArray = ls at hl ⊢
  have hl : lv_has ls 1 [(0, .ref (sk_ad G 1))] := hl
  suffices hgo : ∀ (H : Heap) (locs : List Loc), sk_W G 198 sk_t I s H locs → W p l e (headSpec wsX10_byteHere rmX10_byteHere).room s m ([.ref (sk_ad G 1)].toArray) below meth c H locs 0 0 (MQ below (sk_Qi G 198 sk_t Q) ([.ref (sk_ad G 1)].toArray) s 0 0 (sk_A G)) (F0 m 0 ls []) from hgo _ _ hw
  unfold M_Tape_byteHere at hM
  intro H locs hw
  refine lv_aload_n hx hb (okX10_byteHere (0, .aload_n 0, 1) (List.mem_of_getElem? (i := 0) rfl)) rfl (lv_at hl 0 rfl) ?_
  have hr1 := hw.1.2.2 1 2
  refine sk_geti S hK hw kdn_1 (kd_in kdn_1) (C := RX10) (T := TX10) (N := 4) rfl hI10 2 ⟨by decide, rfl, by decide, rfl⟩ rfl (k' := 2) rfl hL0 (okX10_byteHere (1, .getfield 24, 3) (List.mem_of_getElem? (i := 1) rfl)) ?_
  refine lv_aload_n hx hb (okX10_byteHere (4, .aload_n 0, 1) (List.mem_of_getElem? (i := 2) rfl)) rfl (lv_at hl 0 rfl) ?_
  have hr2 := hw.1.2.2 1 1
  refine sk_geti S hK hw kdn_1 (kd_in kdn_1) (C := RX10) (T := TX10) (N := 4) rfl hI10 1 ⟨by decide, rfl, by decide, rfl⟩ rfl (k' := 1) rfl hL1 (okX10_byteHere (5, .getfield 20, 3) (List.mem_of_getElem? (i := 3) rfl)) ?_
  refine sk_icmp_ge (tgt := 25) hx hb hr1 hr2 (okX10_byteHere (8, .if_icmp .ge 17, 3) (List.mem_of_getElem? (i := 4) rfl)) (by decide) (fun c8 => ?_) (fun c8 => ?_)
  · have hM := hM.1 c8
    refine lv_iconst (v := iI (-1)) hx hb (okX10_byteHere (25, .iconst (-1), 1) (List.mem_of_getElem? (i := 11) rfl)) rfl ?_
    exact sk_iret hx hb hr0 hlocks hK hw (by decide) hM (okX10_byteHere (26, .ireturn, 1) (List.mem_of_getElem? (i := 12) rfl))
  · have hM := hM.2 c8
    refine lv_aload_n hx hb (okX10_byteHere (11, .aload_n 0, 1) (List.mem_of_getElem? (i := 5) rfl)) rfl (lv_at hl 0 rfl) ?_
    refine sk_getr (b := 2) S hK hw kdn_1 (kd_in kdn_1) (C := RX10) (T := TX10) (N := 4) rfl hI10 0 ⟨by decide, rfl, by decide, rfl⟩ rfl (k' := 0) rfl rfl (by decide +kernel) hL2 (okX10_byteHere (12, .getfield 14, 3) (List.mem_of_getElem? (i := 6) rfl)) ?_
    refine lv_aload_n hx hb (okX10_byteHere (15, .aload_n 0, 1) (List.mem_of_getElem? (i := 7) rfl)) rfl (lv_at hl 0 rfl) ?_
    have hr3 := hw.1.2.2 1 2
    refine sk_geti S hK hw kdn_1 (kd_in kdn_1) (C := RX10) (T := TX10) (N := 4) rfl hI10 2 ⟨by decide, rfl, by decide, rfl⟩ rfl (k' := 2) rfl hL0 (okX10_byteHere (16, .getfield 24, 3) (List.mem_of_getElem? (i := 8) rfl)) ?_
    refine sk_ci (sk_runV (a := 2) (C := RX7) (As := [.int (iI (I 1 2))]) (rest := []) S (c_Row_at l G kdn_2 hr3 hM) sk_blind gX10_byteHere_X7_at rfl hdX7_at ⟨⟨rfl, rfl⟩, Nat.le_of_ble_eq_true rfl, Nat.le_of_ble_eq_true rfl⟩ (sk_recv hK hw kdn_2 (kd_in kdn_2) (by decide) rfl) (sk_pre hK hw) rfl hl.1 rfl (Nat.le_of_ble_eq_true rfl) (okX10_byteHere (19, .invokevirtual 69, 3) (List.mem_of_getElem? (i := 9) rfl)) ⟨Nat.zero_le _, Nat.zero_le _⟩) hw (fun r_19 I_19 H locs hr_r_19 hM hw => ?_)
    refine lv_goto (tgt := 26) hx hb (okX10_byteHere (22, .goto 4, 3) (List.mem_of_getElem? (i := 10) rfl)) (by decide) ?_
    exact sk_iret hx hb hr0 hlocks hK hw hr_r_19 hM (okX10_byteHere (26, .ireturn, 1) (List.mem_of_getElem? (i := 12) rfl))
def rmX10_digitOf : Room := { frames := 0, cells := 0, slots := 0, locals := 0 }
set_option maxHeartbeats 4000000 in
set_option maxRecDepth 100000 in
theorem c_Tape_digitOf (l : Launch) (G : sk_G) {p0 : Int} (hr_p0 : rI p0) {Q : Int → sk_S → Prop} {I : sk_S} (hM : M_Tape_digitOf p0 Q I) : Met l yX10_digitOf wsX10_digitOf rmX10_digitOf (va_Pc [.int (iI p0)] (sk_U G 198 sk_t I)) (sk_Qi G 198 sk_t Q) 0 0 (sk_A G) := by
  refine Met.ofW (cc := cX10_digitOf) (maxL := 1) (ret := (some .int)) (by decide) rfl ?_
  intro p e s m args below meth c s₁ B hml hv
  obtain ⟨rfl, hU, hK⟩ := hv
  have hx := B.exec
  have hb := B.bytes
  have hr0 := B.returns
  have hts := atoms_spec (ws := wsX10_digitOf) B.pre
  have hown : s.vm.findClass RX10 = some m.cls := findClass_of_methodNamed B.named
  have hlocks := B.notSynchronized
  have S : CallFix p m c cX10_digitOf 1 s ([.int (iI p0)].toArray) wsX10_digitOf RX10 := ⟨hx, hb, hml, hown, hts⟩
  have hw : sk_W G 198 sk_t I s s.heap [] := ⟨hU, va_S.rf⟩
  have hl := lv_entry ([.int (iI p0)]) (n := 1) (Nat.le_of_ble_eq_true rfl)
  rw [lg_entry_eq]
  generalize (lg_sl ([.int (iI p0)]) ++ List.replicate (1 - (lg_sl ([.int (iI p0)])).length) Slot.unset).toArray = ls at hl ⊢
  have hl : lv_has ls 1 [(0, .int (iI p0))] := hl
  suffices hgo : ∀ (H : Heap) (locs : List Loc), sk_W G 198 sk_t I s H locs → W p l e (headSpec wsX10_digitOf rmX10_digitOf).room s m ([.int (iI p0)].toArray) below meth c H locs 0 0 (MQ below (sk_Qi G 198 sk_t Q) ([.int (iI p0)].toArray) s 0 0 (sk_A G)) (F0 m 0 ls []) from hgo _ _ hw
  unfold M_Tape_digitOf at hM
  intro H locs hw
  refine lv_iload_n hx hb (okX10_digitOf (0, .iload_n 0, 1) (List.mem_of_getElem? (i := 0) rfl)) rfl (lv_at hl 0 rfl) ?_
  refine lv_bipush (v := iI 48) hx hb (okX10_digitOf (1, .bipush 48, 2) (List.mem_of_getElem? (i := 1) rfl)) (by decide +kernel) ?_
  refine sk_icmp_lt (tgt := 19) hx hb hr_p0 (by decide) (okX10_digitOf (3, .if_icmp .lt 16, 3) (List.mem_of_getElem? (i := 2) rfl)) (by decide) (fun c3 => ?_) (fun c3 => ?_)
  · have hM := hM.1 c3
    refine lv_iconst (v := iI (-1)) hx hb (okX10_digitOf (19, .iconst (-1), 1) (List.mem_of_getElem? (i := 10) rfl)) rfl ?_
    exact sk_iret hx hb hr0 hlocks hK hw (by decide) hM (okX10_digitOf (20, .ireturn, 1) (List.mem_of_getElem? (i := 11) rfl))
  · have hM := hM.2 c3
    refine lv_iload_n hx hb (okX10_digitOf (6, .iload_n 0, 1) (List.mem_of_getElem? (i := 3) rfl)) rfl (lv_at hl 0 rfl) ?_
    refine lv_bipush (v := iI 57) hx hb (okX10_digitOf (7, .bipush 57, 2) (List.mem_of_getElem? (i := 4) rfl)) (by decide +kernel) ?_
    refine sk_icmp_gt (tgt := 19) hx hb hr_p0 (by decide) (okX10_digitOf (9, .if_icmp .gt 10, 3) (List.mem_of_getElem? (i := 5) rfl)) (by decide) (fun c9 => ?_) (fun c9 => ?_)
    · have hM := hM.1 c9
      refine lv_iconst (v := iI (-1)) hx hb (okX10_digitOf (19, .iconst (-1), 1) (List.mem_of_getElem? (i := 10) rfl)) rfl ?_
      exact sk_iret hx hb hr0 hlocks hK hw (by decide) hM (okX10_digitOf (20, .ireturn, 1) (List.mem_of_getElem? (i := 11) rfl))
    · have hM := hM.2 c9
      refine lv_iload_n hx hb (okX10_digitOf (12, .iload_n 0, 1) (List.mem_of_getElem? (i := 6) rfl)) rfl (lv_at hl 0 rfl) ?_
      refine lv_bipush (v := iI 48) hx hb (okX10_digitOf (13, .bipush 48, 2) (List.mem_of_getElem? (i := 7) rfl)) (by decide +kernel) ?_
      refine sk_isub hx hb (okX10_digitOf (15, .isub, 1) (List.mem_of_getElem? (i := 8) rfl)) ?_
      refine lv_goto (tgt := 20) hx hb (okX10_digitOf (16, .goto 4, 3) (List.mem_of_getElem? (i := 9) rfl)) (by decide) ?_
      obtain ⟨hr1, hM⟩ := hM
      exact sk_iret hx hb hr0 hlocks hK hw hr1 hM (okX10_digitOf (20, .ireturn, 1) (List.mem_of_getElem? (i := 11) rfl))
def rmX10_empty : Room := { frames := 0, cells := 0, slots := 0, locals := 0 }
set_option maxHeartbeats 4000000 in
set_option maxRecDepth 100000 in
theorem c_Tape_empty (l : Launch) (G : sk_G) {Q : sk_S → Prop} {I : sk_S} (hM : M_Tape_empty Q I) : Met l yX10_empty wsX10_empty rmX10_empty (va_Pc [.ref (sk_ad G 1)] (sk_U G 198 sk_t I)) (sk_Qv G 198 sk_t Q) 0 0 (sk_A G) := by
  refine Met.ofW (cc := cX10_empty) (maxL := 1) (ret := none) (by decide) rfl ?_
  intro p e s m args below meth c s₁ B hml hv
  obtain ⟨rfl, hU, hK⟩ := hv
  have hx := B.exec
  have hb := B.bytes
  have hr0 := B.returns
  have hts := atoms_spec (ws := wsX10_empty) B.pre
  have hown : s.vm.findClass RX10 = some m.cls := findClass_of_methodNamed B.named
  have hlocks := B.notSynchronized
  have S : CallFix p m c cX10_empty 1 s ([.ref (sk_ad G 1)].toArray) wsX10_empty RX10 := ⟨hx, hb, hml, hown, hts⟩
  have hL0 := hts (.fieldLink RX10 20 "SkyLights$Tape" "size" "I") (by decide +kernel)
  have hI10 : ∀ w ∈ u_ws RX10 TX10 4, w ∈ wsX10_empty := by decide +kernel
  have hw : sk_W G 198 sk_t I s s.heap [] := ⟨hU, va_S.rf⟩
  have hl := lv_entry ([.ref (sk_ad G 1)]) (n := 1) (Nat.le_of_ble_eq_true rfl)
  rw [lg_entry_eq]
  generalize (lg_sl ([.ref (sk_ad G 1)]) ++ List.replicate (1 - (lg_sl ([.ref (sk_ad G 1)])).length) Slot.unset).toArray = ls at hl ⊢
  have hl : lv_has ls 1 [(0, .ref (sk_ad G 1))] := hl
  suffices hgo : ∀ (H : Heap) (locs : List Loc), sk_W G 198 sk_t I s H locs → W p l e (headSpec wsX10_empty rmX10_empty).room s m ([.ref (sk_ad G 1)].toArray) below meth c H locs 0 0 (MQ below (sk_Qv G 198 sk_t Q) ([.ref (sk_ad G 1)].toArray) s 0 0 (sk_A G)) (F0 m 0 ls []) from hgo _ _ hw
  unfold M_Tape_empty at hM
  intro H locs hw
  refine lv_aload_n hx hb (okX10_empty (0, .aload_n 0, 1) (List.mem_of_getElem? (i := 0) rfl)) rfl (lv_at hl 0 rfl) ?_
  refine lv_iconst (v := iI 0) hx hb (okX10_empty (1, .iconst 0, 1) (List.mem_of_getElem? (i := 1) rfl)) rfl ?_
  refine sk_put S hK hw kdn_1 (kd_in kdn_1) (C := RX10) (T := TX10) (N := 4) rfl hI10 tyX10 tyX10_ok nmX10 1 ⟨by decide, rfl, by decide, rfl⟩ rfl rfl (k' := 1) rfl (by decide) ⟨rfl, rfl⟩ hL0 (okX10_empty (2, .putfield 20, 3) (List.mem_of_getElem? (i := 2) rfl)) (fun H locs hw => ?_)
  exact sk_vret hx hb hr0 hlocks hK hw hM (okX10_empty (5, .return_, 1) (List.mem_of_getElem? (i := 3) rfl))
def rmX10_readDigits : Room := { frames := 2, cells := 0, slots := 0, locals := 105 }
set_option maxHeartbeats 4000000 in
set_option maxRecDepth 100000 in
theorem c_Tape_readDigits (l : Launch) (G : sk_G) {p1 : Int} (hr_p1 : rI p1) {Q : Int → sk_S → Prop} {I : sk_S} (hM : M_Tape_readDigits p1 Q I) : Met l yX10_readDigits wsX10_readDigits rmX10_readDigits (va_Pc [.ref (sk_ad G 1), .int (iI p1)] (sk_U G 198 sk_t I)) (sk_Qi G 198 sk_t Q) 0 0 (sk_A G) := by
  refine Met.ofW (cc := cX10_readDigits) (maxL := 8) (ret := (some .int)) (by decide) rfl ?_
  intro p e s m args below meth c s₁ B hml hv
  obtain ⟨rfl, hU, hK⟩ := hv
  have hx := B.exec
  have hb := B.bytes
  have hr0 := B.returns
  have hts := atoms_spec (ws := wsX10_readDigits) B.pre
  have hown : s.vm.findClass RX10 = some m.cls := findClass_of_methodNamed B.named
  have hlocks := B.notSynchronized
  have S : CallFix p m c cX10_readDigits 8 s ([.ref (sk_ad G 1), .int (iI p1)].toArray) wsX10_readDigits RX10 := ⟨hx, hb, hml, hown, hts⟩
  have hL0 := hts (.fieldLink RX10 27 "SkyLights$Tape" "faulty" "Z") (by decide +kernel)
  have hL1 := hts (.fieldLink RX10 24 "SkyLights$Tape" "place" "I") (by decide +kernel)
  have hI10 : ∀ w ∈ u_ws RX10 TX10 4, w ∈ wsX10_readDigits := by decide +kernel
  have hw : sk_W G 198 sk_t I s s.heap [] := ⟨hU, va_S.rf⟩
  have hl := lv_entry ([.ref (sk_ad G 1), .int (iI p1)]) (n := 8) (Nat.le_of_ble_eq_true rfl)
  rw [lg_entry_eq]
  generalize (lg_sl ([.ref (sk_ad G 1), .int (iI p1)]) ++ List.replicate (8 - (lg_sl ([.ref (sk_ad G 1), .int (iI p1)])).length) Slot.unset).toArray = ls at hl ⊢
  have hl : lv_has ls 8 [(0, .ref (sk_ad G 1)), (1, .int (iI p1))] := hl
  suffices hgo : ∀ (H : Heap) (locs : List Loc), sk_W G 198 sk_t I s H locs → W p l e (headSpec wsX10_readDigits rmX10_readDigits).room s m ([.ref (sk_ad G 1), .int (iI p1)].toArray) below meth c H locs 0 0 (MQ below (sk_Qi G 198 sk_t Q) ([.ref (sk_ad G 1), .int (iI p1)].toArray) s 0 0 (sk_A G)) (F0 m 0 ls []) from hgo _ _ hw
  have hJ_31 : ∀ (v2 v3 : Int) (I : sk_S), rI v2 → rI v3 → J_Tape_readDigits_31 v2 v3 Q I → ∀ (H : Heap) (locs : List Loc) (ls : Array Slot), sk_W G 198 sk_t I s H locs → lv_has ls 8 [(0, .ref (sk_ad G 1)), (2, .int (iI v2)), (3, .int (iI v3))] → W p l e (headSpec wsX10_readDigits rmX10_readDigits).room s m ([.ref (sk_ad G 1), .int (iI p1)].toArray) below meth c H locs 0 0 (MQ below (sk_Qi G 198 sk_t Q) ([.ref (sk_ad G 1), .int (iI p1)].toArray) s 0 0 (sk_A G)) (F0 m 31 ls []) := by
    intro v2 v3 I hr_v2 hr_v3 hM H locs ls hw hl
    unfold J_Tape_readDigits_31 at hM
    refine lv_aload_n hx hb (okX10_readDigits (31, .aload_n 0, 1) (List.mem_of_getElem? (i := 17) rfl)) rfl (lv_at hl 0 rfl) ?_
    refine lv_aload_n hx hb (okX10_readDigits (32, .aload_n 0, 1) (List.mem_of_getElem? (i := 18) rfl)) rfl (lv_at hl 0 rfl) ?_
    have hr6 := hw.1.2.2 1 3
    refine sk_geti S hK hw kdn_1 (kd_in kdn_1) (C := RX10) (T := TX10) (N := 4) rfl hI10 3 ⟨by decide, rfl, by decide, rfl⟩ rfl (k' := 3) rfl hL0 (okX10_readDigits (33, .getfield 27, 3) (List.mem_of_getElem? (i := 19) rfl)) ?_
    refine sk_if_ne (tgt := 43) hx hb hr6 (okX10_readDigits (36, .ifCond .ne 7, 3) (List.mem_of_getElem? (i := 20) rfl)) (by decide) (fun c36 => ?_) (fun c36 => ?_)
    · have hM := hM.1 c36
      refine lv_iconst (v := iI 1) hx hb (okX10_readDigits (43, .iconst 1, 1) (List.mem_of_getElem? (i := 23) rfl)) rfl ?_
      refine lv_goto (tgt := 48) hx hb (okX10_readDigits (44, .goto 4, 3) (List.mem_of_getElem? (i := 24) rfl)) (by decide) ?_
      refine sk_put S hK hw kdn_1 (kd_in kdn_1) (C := RX10) (T := TX10) (N := 4) rfl hI10 tyX10 tyX10_ok nmX10 3 ⟨by decide, rfl, by decide, rfl⟩ rfl rfl (k' := 3) rfl (by decide) ⟨rfl, rfl⟩ hL0 (okX10_readDigits (48, .putfield 27, 3) (List.mem_of_getElem? (i := 26) rfl)) (fun H locs hw => ?_)
      refine lv_iload_n hx hb (okX10_readDigits (51, .iload_n 2, 1) (List.mem_of_getElem? (i := 27) rfl)) rfl (lv_at hl 1 rfl) ?_
      exact sk_iret hx hb hr0 hlocks hK hw hr_v2 hM (okX10_readDigits (52, .ireturn, 1) (List.mem_of_getElem? (i := 28) rfl))
    · have hM := hM.2 c36
      refine lv_iload_n hx hb (okX10_readDigits (39, .iload_n 3, 1) (List.mem_of_getElem? (i := 21) rfl)) rfl (lv_at hl 2 rfl) ?_
      refine sk_if_ne (tgt := 47) hx hb hr_v3 (okX10_readDigits (40, .ifCond .ne 7, 3) (List.mem_of_getElem? (i := 22) rfl)) (by decide) (fun c40 => ?_) (fun c40 => ?_)
      · have hM := hM.1 c40
        refine lv_iconst (v := iI 0) hx hb (okX10_readDigits (47, .iconst 0, 1) (List.mem_of_getElem? (i := 25) rfl)) rfl ?_
        refine sk_put S hK hw kdn_1 (kd_in kdn_1) (C := RX10) (T := TX10) (N := 4) rfl hI10 tyX10 tyX10_ok nmX10 3 ⟨by decide, rfl, by decide, rfl⟩ rfl rfl (k' := 3) rfl (by decide) ⟨rfl, rfl⟩ hL0 (okX10_readDigits (48, .putfield 27, 3) (List.mem_of_getElem? (i := 26) rfl)) (fun H locs hw => ?_)
        refine lv_iload_n hx hb (okX10_readDigits (51, .iload_n 2, 1) (List.mem_of_getElem? (i := 27) rfl)) rfl (lv_at hl 1 rfl) ?_
        exact sk_iret hx hb hr0 hlocks hK hw hr_v2 hM (okX10_readDigits (52, .ireturn, 1) (List.mem_of_getElem? (i := 28) rfl))
      · have hM := hM.2 c40
        refine lv_iconst (v := iI 1) hx hb (okX10_readDigits (43, .iconst 1, 1) (List.mem_of_getElem? (i := 23) rfl)) rfl ?_
        refine lv_goto (tgt := 48) hx hb (okX10_readDigits (44, .goto 4, 3) (List.mem_of_getElem? (i := 24) rfl)) (by decide) ?_
        refine sk_put S hK hw kdn_1 (kd_in kdn_1) (C := RX10) (T := TX10) (N := 4) rfl hI10 tyX10 tyX10_ok nmX10 3 ⟨by decide, rfl, by decide, rfl⟩ rfl rfl (k' := 3) rfl (by decide) ⟨rfl, rfl⟩ hL0 (okX10_readDigits (48, .putfield 27, 3) (List.mem_of_getElem? (i := 26) rfl)) (fun H locs hw => ?_)
        refine lv_iload_n hx hb (okX10_readDigits (51, .iload_n 2, 1) (List.mem_of_getElem? (i := 27) rfl)) rfl (lv_at hl 1 rfl) ?_
        exact sk_iret hx hb hr0 hlocks hK hw hr_v2 hM (okX10_readDigits (52, .ireturn, 1) (List.mem_of_getElem? (i := 28) rfl))
  have hJ_4 : ∀ (v1 v2 v3 : Int) (I : sk_S), rI v1 → rI v2 → rI v3 → L_Tape_readDigits_4 v1 Q v2 v3 I → ∀ (H : Heap) (locs : List Loc) (ls : Array Slot), sk_W G 198 sk_t I s H locs → lv_has ls 8 [(0, .ref (sk_ad G 1)), (1, .int (iI v1)), (2, .int (iI v2)), (3, .int (iI v3))] → W p l e (headSpec wsX10_readDigits rmX10_readDigits).room s m ([.ref (sk_ad G 1), .int (iI p1)].toArray) below meth c H locs 0 0 (MQ below (sk_Qi G 198 sk_t Q) ([.ref (sk_ad G 1), .int (iI p1)].toArray) s 0 0 (sk_A G)) (F0 m 4 ls []) := by
    intro v1 v2 v3 I hr_v1 hr_v2 hr_v3 hM H locs ls hw hl
    unfold L_Tape_readDigits_4 at hM
    obtain ⟨X_4, hX_4⟩ : ∃ X : Int → Int → sk_S → Prop, ∀ (v2 v3 : Int) (I : sk_S), X v2 v3 I ↔ (rI v2 → rI v3 → ∀ (H : Heap) (locs : List Loc) (ls : Array Slot), sk_W G 198 sk_t I s H locs → lv_has ls 8 [(0, .ref (sk_ad G 1)), (1, .int (iI v1)), (2, .int (iI v2)), (3, .int (iI v3))] → W p l e (headSpec wsX10_readDigits rmX10_readDigits).room s m ([.ref (sk_ad G 1), .int (iI p1)].toArray) below meth c H locs 0 0 (MQ below (sk_Qi G 198 sk_t Q) ([.ref (sk_ad G 1), .int (iI p1)].toArray) s 0 0 (sk_A G)) (F0 m 4 ls [])) := ⟨_, fun _ _ _ => Iff.rfl⟩
    have hJ_91 : ∀ (v2 v3 v5 v6 s0 : Int) (I : sk_S), rI v2 → rI v3 → rI v5 → rI v6 → rI s0 → J_Tape_readDigits_91 v1 v2 v3 v5 v6 s0 Q X_4 I → ∀ (H : Heap) (locs : List Loc) (ls : Array Slot), sk_W G 198 sk_t I s H locs → lv_has ls 8 [(0, .ref (sk_ad G 1)), (1, .int (iI v1)), (2, .int (iI v2)), (3, .int (iI v3)), (5, .int (iI v5)), (6, .int (iI v6))] → W p l e (headSpec wsX10_readDigits rmX10_readDigits).room s m ([.ref (sk_ad G 1), .int (iI p1)].toArray) below meth c H locs 0 0 (MQ below (sk_Qi G 198 sk_t Q) ([.ref (sk_ad G 1), .int (iI p1)].toArray) s 0 0 (sk_A G)) (F0 m 91 ls [.int (iI s0)]) := by
      intro v2 v3 v5 v6 s0 I hr_v2 hr_v3 hr_v5 hr_v6 hr_s0 hM H locs ls hw hl
      unfold J_Tape_readDigits_91 at hM
      refine lv_istore (lv' := [(7, .int (iI s0)), (0, .ref (sk_ad G 1)), (1, .int (iI v1)), (2, .int (iI v2)), (3, .int (iI v3)), (5, .int (iI v5)), (6, .int (iI v6))]) hx hb (okX10_readDigits (91, .istore 7, 2) (List.mem_of_getElem? (i := 50) rfl)) hl (by decide) rfl (fun ls hl => ?_)
      refine lv_iload hx hb (okX10_readDigits (93, .iload 6, 2) (List.mem_of_getElem? (i := 51) rfl)) (lv_at hl 6 rfl) ?_
      refine sk_if_ne (tgt := 111) hx hb hr_v6 (okX10_readDigits (95, .ifCond .ne 16, 3) (List.mem_of_getElem? (i := 52) rfl)) (by decide) (fun c95 => ?_) (fun c95 => ?_)
      · have hM := hM.1 c95
        refine lv_aload_n hx hb (okX10_readDigits (111, .aload_n 0, 1) (List.mem_of_getElem? (i := 58) rfl)) rfl (lv_at hl 1 rfl) ?_
        refine lv_iconst (v := iI 1) hx hb (okX10_readDigits (112, .iconst 1, 1) (List.mem_of_getElem? (i := 59) rfl)) rfl ?_
        refine sk_put S hK hw kdn_1 (kd_in kdn_1) (C := RX10) (T := TX10) (N := 4) rfl hI10 tyX10 tyX10_ok nmX10 3 ⟨by decide, rfl, by decide, rfl⟩ rfl rfl (k' := 3) rfl (by decide) ⟨rfl, rfl⟩ hL0 (okX10_readDigits (113, .putfield 27, 3) (List.mem_of_getElem? (i := 60) rfl)) (fun H locs hw => ?_)
        refine lv_iload_n hx hb (okX10_readDigits (116, .iload_n 2, 1) (List.mem_of_getElem? (i := 61) rfl)) rfl (lv_at hl 3 rfl) ?_
        exact sk_iret hx hb hr0 hlocks hK hw hr_v2 hM (okX10_readDigits (117, .ireturn, 1) (List.mem_of_getElem? (i := 62) rfl))
      · have hM := hM.2 c95
        refine lv_iload hx hb (okX10_readDigits (98, .iload 7, 2) (List.mem_of_getElem? (i := 53) rfl)) (lv_at hl 0 rfl) ?_
        refine sk_if_ne (tgt := 111) hx hb hr_s0 (okX10_readDigits (100, .ifCond .ne 11, 3) (List.mem_of_getElem? (i := 54) rfl)) (by decide) (fun c100 => ?_) (fun c100 => ?_)
        · have hM := hM.1 c100
          refine lv_aload_n hx hb (okX10_readDigits (111, .aload_n 0, 1) (List.mem_of_getElem? (i := 58) rfl)) rfl (lv_at hl 1 rfl) ?_
          refine lv_iconst (v := iI 1) hx hb (okX10_readDigits (112, .iconst 1, 1) (List.mem_of_getElem? (i := 59) rfl)) rfl ?_
          refine sk_put S hK hw kdn_1 (kd_in kdn_1) (C := RX10) (T := TX10) (N := 4) rfl hI10 tyX10 tyX10_ok nmX10 3 ⟨by decide, rfl, by decide, rfl⟩ rfl rfl (k' := 3) rfl (by decide) ⟨rfl, rfl⟩ hL0 (okX10_readDigits (113, .putfield 27, 3) (List.mem_of_getElem? (i := 60) rfl)) (fun H locs hw => ?_)
          refine lv_iload_n hx hb (okX10_readDigits (116, .iload_n 2, 1) (List.mem_of_getElem? (i := 61) rfl)) rfl (lv_at hl 3 rfl) ?_
          exact sk_iret hx hb hr0 hlocks hK hw hr_v2 hM (okX10_readDigits (117, .ireturn, 1) (List.mem_of_getElem? (i := 62) rfl))
        · have hM := hM.2 c100
          refine lv_iload hx hb (okX10_readDigits (103, .iload 5, 2) (List.mem_of_getElem? (i := 55) rfl)) (lv_at hl 5 rfl) ?_
          refine lv_sipush (v := iI 200) hx hb (okX10_readDigits (105, .sipush 200, 3) (List.mem_of_getElem? (i := 56) rfl)) (by decide +kernel) ?_
          refine sk_icmp_le (tgt := 118) hx hb hr_v5 (by decide) (okX10_readDigits (108, .if_icmp .le 10, 3) (List.mem_of_getElem? (i := 57) rfl)) (by decide) (fun c108 => ?_) (fun c108 => ?_)
          · have hM := hM.1 c108
            refine lv_iload hx hb (okX10_readDigits (118, .iload 5, 2) (List.mem_of_getElem? (i := 63) rfl)) (lv_at hl 5 rfl) ?_
            refine lv_istore_n (lv' := [(2, .int (iI v5)), (7, .int (iI s0)), (0, .ref (sk_ad G 1)), (1, .int (iI v1)), (3, .int (iI v3)), (5, .int (iI v5)), (6, .int (iI v6))]) hx hb (okX10_readDigits (120, .istore_n 2, 1) (List.mem_of_getElem? (i := 64) rfl)) rfl hl (by decide) rfl (fun ls hl => ?_)
            refine lv_aload_n hx hb (okX10_readDigits (121, .aload_n 0, 1) (List.mem_of_getElem? (i := 65) rfl)) rfl (lv_at hl 2 rfl) ?_
            refine lv_dup hx hb (okX10_readDigits (122, .dup, 1) (List.mem_of_getElem? (i := 66) rfl)) rfl ?_
            have hr3 := hw.1.2.2 1 2
            refine sk_geti S hK hw kdn_1 (kd_in kdn_1) (C := RX10) (T := TX10) (N := 4) rfl hI10 2 ⟨by decide, rfl, by decide, rfl⟩ rfl (k' := 2) rfl hL1 (okX10_readDigits (123, .getfield 24, 3) (List.mem_of_getElem? (i := 67) rfl)) ?_
            refine lv_iconst (v := iI 1) hx hb (okX10_readDigits (126, .iconst 1, 1) (List.mem_of_getElem? (i := 68) rfl)) rfl ?_
            refine sk_iadd hx hb (okX10_readDigits (127, .iadd, 1) (List.mem_of_getElem? (i := 69) rfl)) ?_
            obtain ⟨hr4, hM⟩ := hM
            refine sk_put S hK hw kdn_1 (kd_in kdn_1) (C := RX10) (T := TX10) (N := 4) rfl hI10 tyX10 tyX10_ok nmX10 2 ⟨by decide, rfl, by decide, rfl⟩ rfl rfl (k' := 2) rfl hr4 ⟨rfl, rfl⟩ hL1 (okX10_readDigits (128, .putfield 24, 3) (List.mem_of_getElem? (i := 70) rfl)) (fun H locs hw => ?_)
            obtain ⟨hr5, hM⟩ := hM
            obtain ⟨v3_131, ev3_131⟩ : ∃ y : Int, y = v3 + 1 := ⟨_, rfl⟩
            have hM := hM v3_131 ev3_131
            have hr_v3_131 : rI v3_131 := by rw [ev3_131]; exact hr5
            refine lv_iinc (v := iI v3_131) (lv' := [(3, .int (iI v3_131)), (2, .int (iI v5)), (7, .int (iI s0)), (0, .ref (sk_ad G 1)), (1, .int (iI v1)), (5, .int (iI v5)), (6, .int (iI v6))]) hx hb (okX10_readDigits (131, .iinc 3 1, 3) (List.mem_of_getElem? (i := 71) rfl)) hl (k := 4) rfl (by rw [ev3_131]; exact iI_add _ _) (by decide) rfl (fun ls hl => ?_)
            refine lv_goto (tgt := 4) hx hb (okX10_readDigits (134, .goto (-130), 3) (List.mem_of_getElem? (i := 72) rfl)) (by decide) ?_
            exact (hX_4 v5 v3_131 (up I 1 2 ((I 1 2) + 1))).1 hM hr_v5 hr_v3_131 H locs ls hw (lv_sub hl [3, 4, 1, 0] rfl)
          · have hM := hM.2 c108
            refine lv_aload_n hx hb (okX10_readDigits (111, .aload_n 0, 1) (List.mem_of_getElem? (i := 58) rfl)) rfl (lv_at hl 1 rfl) ?_
            refine lv_iconst (v := iI 1) hx hb (okX10_readDigits (112, .iconst 1, 1) (List.mem_of_getElem? (i := 59) rfl)) rfl ?_
            refine sk_put S hK hw kdn_1 (kd_in kdn_1) (C := RX10) (T := TX10) (N := 4) rfl hI10 tyX10 tyX10_ok nmX10 3 ⟨by decide, rfl, by decide, rfl⟩ rfl rfl (k' := 3) rfl (by decide) ⟨rfl, rfl⟩ hL0 (okX10_readDigits (113, .putfield 27, 3) (List.mem_of_getElem? (i := 60) rfl)) (fun H locs hw => ?_)
            refine lv_iload_n hx hb (okX10_readDigits (116, .iload_n 2, 1) (List.mem_of_getElem? (i := 61) rfl)) rfl (lv_at hl 3 rfl) ?_
            exact sk_iret hx hb hr0 hlocks hK hw hr_v2 hM (okX10_readDigits (117, .ireturn, 1) (List.mem_of_getElem? (i := 62) rfl))
    have hJ_90 : ∀ (v2 v3 v5 v6 : Int) (I : sk_S), rI v2 → rI v3 → rI v5 → rI v6 → J_Tape_readDigits_90 v1 v2 v3 v5 v6 Q X_4 I → ∀ (H : Heap) (locs : List Loc) (ls : Array Slot), sk_W G 198 sk_t I s H locs → lv_has ls 8 [(0, .ref (sk_ad G 1)), (1, .int (iI v1)), (2, .int (iI v2)), (3, .int (iI v3)), (5, .int (iI v5)), (6, .int (iI v6))] → W p l e (headSpec wsX10_readDigits rmX10_readDigits).room s m ([.ref (sk_ad G 1), .int (iI p1)].toArray) below meth c H locs 0 0 (MQ below (sk_Qi G 198 sk_t Q) ([.ref (sk_ad G 1), .int (iI p1)].toArray) s 0 0 (sk_A G)) (F0 m 90 ls []) := by
      intro v2 v3 v5 v6 I hr_v2 hr_v3 hr_v5 hr_v6 hM H locs ls hw hl
      unfold J_Tape_readDigits_90 at hM
      refine lv_iconst (v := iI 0) hx hb (okX10_readDigits (90, .iconst 0, 1) (List.mem_of_getElem? (i := 49) rfl)) rfl ?_
      exact hJ_91 v2 v3 v5 v6 0 I hr_v2 hr_v3 hr_v5 hr_v6 (by decide) hM H locs ls hw (lv_sub hl [0, 1, 2, 3, 4, 5] rfl)
    have hJ_75 : ∀ (v2 v3 v5 s0 : Int) (I : sk_S), rI v2 → rI v3 → rI v5 → rI s0 → J_Tape_readDigits_75 v1 v2 v3 v5 s0 Q X_4 I → ∀ (H : Heap) (locs : List Loc) (ls : Array Slot), sk_W G 198 sk_t I s H locs → lv_has ls 8 [(0, .ref (sk_ad G 1)), (1, .int (iI v1)), (2, .int (iI v2)), (3, .int (iI v3)), (5, .int (iI v5))] → W p l e (headSpec wsX10_readDigits rmX10_readDigits).room s m ([.ref (sk_ad G 1), .int (iI p1)].toArray) below meth c H locs 0 0 (MQ below (sk_Qi G 198 sk_t Q) ([.ref (sk_ad G 1), .int (iI p1)].toArray) s 0 0 (sk_A G)) (F0 m 75 ls [.int (iI s0)]) := by
      intro v2 v3 v5 s0 I hr_v2 hr_v3 hr_v5 hr_s0 hM H locs ls hw hl
      unfold J_Tape_readDigits_75 at hM
      refine lv_istore (lv' := [(6, .int (iI s0)), (0, .ref (sk_ad G 1)), (1, .int (iI v1)), (2, .int (iI v2)), (3, .int (iI v3)), (5, .int (iI v5))]) hx hb (okX10_readDigits (75, .istore 6, 2) (List.mem_of_getElem? (i := 42) rfl)) hl (by decide) rfl (fun ls hl => ?_)
      refine lv_iload_n hx hb (okX10_readDigits (77, .iload_n 1, 1) (List.mem_of_getElem? (i := 43) rfl)) rfl (lv_at hl 2 rfl) ?_
      refine sk_if_eq (tgt := 90) hx hb hr_v1 (okX10_readDigits (78, .ifCond .eq 12, 3) (List.mem_of_getElem? (i := 44) rfl)) (by decide) (fun c78 => ?_) (fun c78 => ?_)
      · have hM := hM.1 c78
        exact hJ_90 v2 v3 v5 s0 I hr_v2 hr_v3 hr_v5 hr_s0 hM H locs ls hw (lv_sub hl [1, 2, 3, 4, 5, 0] rfl)
      · have hM := hM.2 c78
        refine lv_iload hx hb (okX10_readDigits (81, .iload 5, 2) (List.mem_of_getElem? (i := 45) rfl)) (lv_at hl 5 rfl) ?_
        refine sk_if_ne (tgt := 90) hx hb hr_v5 (okX10_readDigits (83, .ifCond .ne 7, 3) (List.mem_of_getElem? (i := 46) rfl)) (by decide) (fun c83 => ?_) (fun c83 => ?_)
        · have hM := hM.1 c83
          exact hJ_90 v2 v3 v5 s0 I hr_v2 hr_v3 hr_v5 hr_s0 hM H locs ls hw (lv_sub hl [1, 2, 3, 4, 5, 0] rfl)
        · have hM := hM.2 c83
          refine lv_iconst (v := iI 1) hx hb (okX10_readDigits (86, .iconst 1, 1) (List.mem_of_getElem? (i := 47) rfl)) rfl ?_
          refine lv_goto (tgt := 91) hx hb (okX10_readDigits (87, .goto 4, 3) (List.mem_of_getElem? (i := 48) rfl)) (by decide) ?_
          exact hJ_91 v2 v3 v5 s0 1 I hr_v2 hr_v3 hr_v5 hr_s0 (by decide) hM H locs ls hw (lv_sub hl [1, 2, 3, 4, 5, 0] rfl)
    have hJ_74 : ∀ (v2 v3 v5 : Int) (I : sk_S), rI v2 → rI v3 → rI v5 → J_Tape_readDigits_74 v1 v2 v3 v5 Q X_4 I → ∀ (H : Heap) (locs : List Loc) (ls : Array Slot), sk_W G 198 sk_t I s H locs → lv_has ls 8 [(0, .ref (sk_ad G 1)), (1, .int (iI v1)), (2, .int (iI v2)), (3, .int (iI v3)), (5, .int (iI v5))] → W p l e (headSpec wsX10_readDigits rmX10_readDigits).room s m ([.ref (sk_ad G 1), .int (iI p1)].toArray) below meth c H locs 0 0 (MQ below (sk_Qi G 198 sk_t Q) ([.ref (sk_ad G 1), .int (iI p1)].toArray) s 0 0 (sk_A G)) (F0 m 74 ls []) := by
      intro v2 v3 v5 I hr_v2 hr_v3 hr_v5 hM H locs ls hw hl
      unfold J_Tape_readDigits_74 at hM
      refine lv_iconst (v := iI 0) hx hb (okX10_readDigits (74, .iconst 0, 1) (List.mem_of_getElem? (i := 41) rfl)) rfl ?_
      exact hJ_75 v2 v3 v5 0 I hr_v2 hr_v3 hr_v5 (by decide) hM H locs ls hw (lv_sub hl [0, 1, 2, 3, 4] rfl)
    refine (hX_4 v2 v3 I).1 (hM X_4 (fun v2 v3 I hM => (hX_4 v2 v3 I).2 (fun hr_v2 hr_v3 H locs ls hw hl => ?_))) hr_v2 hr_v3 H locs ls hw hl
    refine lv_iload_n hx hb (okX10_readDigits (4, .iload_n 3, 1) (List.mem_of_getElem? (i := 4) rfl)) rfl (lv_at hl 3 rfl) ?_
    refine lv_iconst (v := iI 3) hx hb (okX10_readDigits (5, .iconst 3, 1) (List.mem_of_getElem? (i := 5) rfl)) rfl ?_
    refine sk_icmp_ge (tgt := 137) hx hb hr_v3 (by decide) (okX10_readDigits (6, .if_icmp .ge 131, 3) (List.mem_of_getElem? (i := 6) rfl)) (by decide) (fun c6 => ?_) (fun c6 => ?_)
    · have hM := hM.1 c6
      refine lv_iload_n hx hb (okX10_readDigits (137, .iload_n 2, 1) (List.mem_of_getElem? (i := 73) rfl)) rfl (lv_at hl 2 rfl) ?_
      exact sk_iret hx hb hr0 hlocks hK hw hr_v2 hM (okX10_readDigits (138, .ireturn, 1) (List.mem_of_getElem? (i := 74) rfl))
    · have hM := hM.2 c6
      refine lv_aload_n hx hb (okX10_readDigits (9, .aload_n 0, 1) (List.mem_of_getElem? (i := 7) rfl)) rfl (lv_at hl 0 rfl) ?_
      refine sk_ci (sk_runV (a := 1) (C := RX10) (As := []) (rest := []) S (c_Tape_byteHere l G hM) sk_blind gX10_readDigits_X10_byteHere rfl hdX10_byteHere ⟨⟨rfl, rfl⟩, Nat.le_of_ble_eq_true rfl, Nat.le_of_ble_eq_true rfl⟩ (sk_recv hK hw kdn_1 (kd_in kdn_1) (by decide) rfl) (sk_pre hK hw) rfl hl.1 rfl (Nat.le_of_ble_eq_true rfl) (okX10_readDigits (10, .invokevirtual 46, 3) (List.mem_of_getElem? (i := 8) rfl)) ⟨Nat.zero_le _, Nat.zero_le _⟩) hw (fun r_10 I_10 H locs hr_r_10 hM hw => ?_)
      refine sk_ci (sk_runS (As := [.int (iI r_10)]) (rest := []) S (c_Tape_digitOf l G hr_r_10 hM) sk_blind gX10_readDigits_X10_digitOf rfl hdX10_digitOf ⟨⟨rfl, rfl⟩, Nat.le_of_ble_eq_true rfl, Nat.le_of_ble_eq_true rfl⟩ (sk_pre hK hw) rfl hl.1 rfl (Nat.le_of_ble_eq_true rfl) (okX10_readDigits (13, .invokestatic 65, 3) (List.mem_of_getElem? (i := 9) rfl)) ⟨Nat.zero_le _, Nat.zero_le _⟩) hw (fun r_13 I_13 H locs hr_r_13 hM hw => ?_)
      refine lv_istore (lv' := [(4, .int (iI r_13)), (0, .ref (sk_ad G 1)), (1, .int (iI v1)), (2, .int (iI v2)), (3, .int (iI v3))]) hx hb (okX10_readDigits (16, .istore 4, 2) (List.mem_of_getElem? (i := 10) rfl)) hl (by decide) rfl (fun ls hl => ?_)
      refine lv_aload_n hx hb (okX10_readDigits (18, .aload_n 0, 1) (List.mem_of_getElem? (i := 11) rfl)) rfl (lv_at hl 1 rfl) ?_
      have hr1 := hw.1.2.2 1 3
      refine sk_geti S hK hw kdn_1 (kd_in kdn_1) (C := RX10) (T := TX10) (N := 4) rfl hI10 3 ⟨by decide, rfl, by decide, rfl⟩ rfl (k' := 3) rfl hL0 (okX10_readDigits (19, .getfield 27, 3) (List.mem_of_getElem? (i := 12) rfl)) ?_
      refine sk_if_ne (tgt := 31) hx hb hr1 (okX10_readDigits (22, .ifCond .ne 9, 3) (List.mem_of_getElem? (i := 13) rfl)) (by decide) (fun c22 => ?_) (fun c22 => ?_)
      · have hM := hM.1 c22
        exact hJ_31 v2 v3 I_13 hr_v2 hr_v3 hM H locs ls hw (lv_sub hl [1, 3, 4] rfl)
      · have hM := hM.2 c22
        refine lv_iload hx hb (okX10_readDigits (25, .iload 4, 2) (List.mem_of_getElem? (i := 14) rfl)) (lv_at hl 0 rfl) ?_
        refine lv_iconst (v := iI (-1)) hx hb (okX10_readDigits (27, .iconst (-1), 1) (List.mem_of_getElem? (i := 15) rfl)) rfl ?_
        refine sk_icmp_ne (tgt := 53) hx hb hr_r_13 (by decide) (okX10_readDigits (28, .if_icmp .ne 25, 3) (List.mem_of_getElem? (i := 16) rfl)) (by decide) (fun c28 => ?_) (fun c28 => ?_)
        · have hM := hM.1 c28
          refine lv_iload_n hx hb (okX10_readDigits (53, .iload_n 2, 1) (List.mem_of_getElem? (i := 29) rfl)) rfl (lv_at hl 3 rfl) ?_
          refine lv_bipush (v := iI 10) hx hb (okX10_readDigits (54, .bipush 10, 2) (List.mem_of_getElem? (i := 30) rfl)) (by decide +kernel) ?_
          refine sk_imul hx hb (okX10_readDigits (56, .imul, 1) (List.mem_of_getElem? (i := 31) rfl)) ?_
          refine lv_iload hx hb (okX10_readDigits (57, .iload 4, 2) (List.mem_of_getElem? (i := 32) rfl)) (lv_at hl 0 rfl) ?_
          refine sk_iadd hx hb (okX10_readDigits (59, .iadd, 1) (List.mem_of_getElem? (i := 33) rfl)) ?_
          obtain ⟨hr2, hM⟩ := hM
          refine sk_nm (fun v5_60 ev5_60 => ?_)
          have hM := hM v5_60 ev5_60
          have hr_v5_60 : rI v5_60 := by rw [ev5_60]; exact hr2
          refine lv_istore (lv' := [(5, .int (iI v5_60)), (4, .int (iI r_13)), (0, .ref (sk_ad G 1)), (1, .int (iI v1)), (2, .int (iI v2)), (3, .int (iI v3))]) hx hb (okX10_readDigits (60, .istore 5, 2) (List.mem_of_getElem? (i := 34) rfl)) hl (by decide) rfl (fun ls hl => ?_)
          refine lv_iload_n hx hb (okX10_readDigits (62, .iload_n 3, 1) (List.mem_of_getElem? (i := 35) rfl)) rfl (lv_at hl 5 rfl) ?_
          refine sk_if_le (tgt := 74) hx hb hr_v3 (okX10_readDigits (63, .ifCond .le 11, 3) (List.mem_of_getElem? (i := 36) rfl)) (by decide) (fun c63 => ?_) (fun c63 => ?_)
          · have hM := hM.1 c63
            exact hJ_74 v2 v3 v5_60 I_13 hr_v2 hr_v3 hr_v5_60 hM H locs ls hw (lv_sub hl [2, 3, 4, 5, 0] rfl)
          · have hM := hM.2 c63
            refine lv_iload_n hx hb (okX10_readDigits (66, .iload_n 2, 1) (List.mem_of_getElem? (i := 37) rfl)) rfl (lv_at hl 4 rfl) ?_
            refine sk_if_ne (tgt := 74) hx hb hr_v2 (okX10_readDigits (67, .ifCond .ne 7, 3) (List.mem_of_getElem? (i := 38) rfl)) (by decide) (fun c67 => ?_) (fun c67 => ?_)
            · have hM := hM.1 c67
              exact hJ_74 v2 v3 v5_60 I_13 hr_v2 hr_v3 hr_v5_60 hM H locs ls hw (lv_sub hl [2, 3, 4, 5, 0] rfl)
            · have hM := hM.2 c67
              refine lv_iconst (v := iI 1) hx hb (okX10_readDigits (70, .iconst 1, 1) (List.mem_of_getElem? (i := 39) rfl)) rfl ?_
              refine lv_goto (tgt := 75) hx hb (okX10_readDigits (71, .goto 4, 3) (List.mem_of_getElem? (i := 40) rfl)) (by decide) ?_
              exact hJ_75 v2 v3 v5_60 1 I_13 hr_v2 hr_v3 hr_v5_60 (by decide) hM H locs ls hw (lv_sub hl [2, 3, 4, 5, 0] rfl)
        · have hM := hM.2 c28
          exact hJ_31 v2 v3 I_13 hr_v2 hr_v3 hM H locs ls hw (lv_sub hl [1, 3, 4] rfl)
  unfold M_Tape_readDigits at hM
  intro H locs hw
  refine lv_iconst (v := iI 0) hx hb (okX10_readDigits (0, .iconst 0, 1) (List.mem_of_getElem? (i := 0) rfl)) rfl ?_
  refine lv_istore_n (lv' := [(2, .int (iI 0)), (0, .ref (sk_ad G 1)), (1, .int (iI p1))]) hx hb (okX10_readDigits (1, .istore_n 2, 1) (List.mem_of_getElem? (i := 1) rfl)) rfl hl (by decide) rfl (fun ls hl => ?_)
  refine lv_iconst (v := iI 0) hx hb (okX10_readDigits (2, .iconst 0, 1) (List.mem_of_getElem? (i := 2) rfl)) rfl ?_
  refine lv_istore_n (lv' := [(3, .int (iI 0)), (2, .int (iI 0)), (0, .ref (sk_ad G 1)), (1, .int (iI p1))]) hx hb (okX10_readDigits (3, .istore_n 3, 1) (List.mem_of_getElem? (i := 3) rfl)) rfl hl (by decide) rfl (fun ls hl => ?_)
  exact hJ_4 p1 0 0 I hr_p1 (by decide) (by decide) hM H locs ls hw (lv_sub hl [2, 3, 1, 0] rfl)
def rmX10_readNumber : Room := { frames := 3, cells := 0, slots := 0, locals := 164 }
set_option maxHeartbeats 4000000 in
set_option maxRecDepth 100000 in
theorem c_Tape_readNumber (l : Launch) (G : sk_G) {p1 p2 : Int} (hr_p1 : rI p1) (hr_p2 : rI p2) {Q : Int → sk_S → Prop} {I : sk_S} (hM : M_Tape_readNumber p1 p2 Q I) : Met l yX10_readNumber wsX10_readNumber rmX10_readNumber (va_Pc [.ref (sk_ad G 1), .int (iI p1), .int (iI p2)] (sk_U G 198 sk_t I)) (sk_Qi G 198 sk_t Q) 0 0 (sk_A G) := by
  refine Met.ofW (cc := cX10_readNumber) (maxL := 5) (ret := (some .int)) (by decide) rfl ?_
  intro p e s m args below meth c s₁ B hml hv
  obtain ⟨rfl, hU, hK⟩ := hv
  have hx := B.exec
  have hb := B.bytes
  have hr0 := B.returns
  have hts := atoms_spec (ws := wsX10_readNumber) B.pre
  have hown : s.vm.findClass RX10 = some m.cls := findClass_of_methodNamed B.named
  have hlocks := B.notSynchronized
  have S : CallFix p m c cX10_readNumber 5 s ([.ref (sk_ad G 1), .int (iI p1), .int (iI p2)].toArray) wsX10_readNumber RX10 := ⟨hx, hb, hml, hown, hts⟩
  have hL0 := hts (.fieldLink RX10 27 "SkyLights$Tape" "faulty" "Z") (by decide +kernel)
  have hL1 := hts (.fieldLink RX10 24 "SkyLights$Tape" "place" "I") (by decide +kernel)
  have hI10 : ∀ w ∈ u_ws RX10 TX10 4, w ∈ wsX10_readNumber := by decide +kernel
  have hw : sk_W G 198 sk_t I s s.heap [] := ⟨hU, va_S.rf⟩
  have hl := lv_entry ([.ref (sk_ad G 1), .int (iI p1), .int (iI p2)]) (n := 5) (Nat.le_of_ble_eq_true rfl)
  rw [lg_entry_eq]
  generalize (lg_sl ([.ref (sk_ad G 1), .int (iI p1), .int (iI p2)]) ++ List.replicate (5 - (lg_sl ([.ref (sk_ad G 1), .int (iI p1), .int (iI p2)])).length) Slot.unset).toArray = ls at hl ⊢
  have hl : lv_has ls 5 [(0, .ref (sk_ad G 1)), (1, .int (iI p1)), (2, .int (iI p2))] := hl
  suffices hgo : ∀ (H : Heap) (locs : List Loc), sk_W G 198 sk_t I s H locs → W p l e (headSpec wsX10_readNumber rmX10_readNumber).room s m ([.ref (sk_ad G 1), .int (iI p1), .int (iI p2)].toArray) below meth c H locs 0 0 (MQ below (sk_Qi G 198 sk_t Q) ([.ref (sk_ad G 1), .int (iI p1), .int (iI p2)].toArray) s 0 0 (sk_A G)) (F0 m 0 ls []) from hgo _ _ hw
  have hJ_80 : ∀ (v3 v4 : Int) (I : sk_S), rI v3 → rI v4 → J_Tape_readNumber_80 v3 v4 Q I → ∀ (H : Heap) (locs : List Loc) (ls : Array Slot), sk_W G 198 sk_t I s H locs → lv_has ls 5 [(3, .int (iI v3)), (4, .int (iI v4))] → W p l e (headSpec wsX10_readNumber rmX10_readNumber).room s m ([.ref (sk_ad G 1), .int (iI p1), .int (iI p2)].toArray) below meth c H locs 0 0 (MQ below (sk_Qi G 198 sk_t Q) ([.ref (sk_ad G 1), .int (iI p1), .int (iI p2)].toArray) s 0 0 (sk_A G)) (F0 m 80 ls []) := by
    intro v3 v4 I hr_v3 hr_v4 hM H locs ls hw hl
    unfold J_Tape_readNumber_80 at hM
    refine lv_iload_n hx hb (okX10_readNumber (80, .iload_n 3, 1) (List.mem_of_getElem? (i := 42) rfl)) rfl (lv_at hl 0 rfl) ?_
    refine sk_if_eq (tgt := 90) hx hb hr_v3 (okX10_readNumber (81, .ifCond .eq 9, 3) (List.mem_of_getElem? (i := 43) rfl)) (by decide) (fun c81 => ?_) (fun c81 => ?_)
    · have hM := hM.1 c81
      refine lv_iload hx hb (okX10_readNumber (90, .iload 4, 2) (List.mem_of_getElem? (i := 47) rfl)) (lv_at hl 1 rfl) ?_
      exact sk_iret hx hb hr0 hlocks hK hw hr_v4 hM (okX10_readNumber (92, .ireturn, 1) (List.mem_of_getElem? (i := 48) rfl))
    · have hM := hM.2 c81
      refine lv_iload hx hb (okX10_readNumber (84, .iload 4, 2) (List.mem_of_getElem? (i := 44) rfl)) (lv_at hl 1 rfl) ?_
      refine sk_ineg hx hb (okX10_readNumber (86, .ineg, 1) (List.mem_of_getElem? (i := 45) rfl)) ?_
      refine lv_goto (tgt := 92) hx hb (okX10_readNumber (87, .goto 5, 3) (List.mem_of_getElem? (i := 46) rfl)) (by decide) ?_
      obtain ⟨hr7, hM⟩ := hM
      exact sk_iret hx hb hr0 hlocks hK hw hr7 hM (okX10_readNumber (92, .ireturn, 1) (List.mem_of_getElem? (i := 48) rfl))
  have hJ_75 : ∀ (v3 v4 : Int) (I : sk_S), rI v3 → rI v4 → J_Tape_readNumber_75 v3 v4 Q I → ∀ (H : Heap) (locs : List Loc) (ls : Array Slot), sk_W G 198 sk_t I s H locs → lv_has ls 5 [(0, .ref (sk_ad G 1)), (3, .int (iI v3)), (4, .int (iI v4))] → W p l e (headSpec wsX10_readNumber rmX10_readNumber).room s m ([.ref (sk_ad G 1), .int (iI p1), .int (iI p2)].toArray) below meth c H locs 0 0 (MQ below (sk_Qi G 198 sk_t Q) ([.ref (sk_ad G 1), .int (iI p1), .int (iI p2)].toArray) s 0 0 (sk_A G)) (F0 m 75 ls []) := by
    intro v3 v4 I hr_v3 hr_v4 hM H locs ls hw hl
    unfold J_Tape_readNumber_75 at hM
    refine lv_aload_n hx hb (okX10_readNumber (75, .aload_n 0, 1) (List.mem_of_getElem? (i := 39) rfl)) rfl (lv_at hl 0 rfl) ?_
    refine lv_iconst (v := iI 1) hx hb (okX10_readNumber (76, .iconst 1, 1) (List.mem_of_getElem? (i := 40) rfl)) rfl ?_
    refine sk_put S hK hw kdn_1 (kd_in kdn_1) (C := RX10) (T := TX10) (N := 4) rfl hI10 tyX10 tyX10_ok nmX10 3 ⟨by decide, rfl, by decide, rfl⟩ rfl rfl (k' := 3) rfl (by decide) ⟨rfl, rfl⟩ hL0 (okX10_readNumber (77, .putfield 27, 3) (List.mem_of_getElem? (i := 41) rfl)) (fun H locs hw => ?_)
    exact hJ_80 v3 v4 (up I 1 3 1) hr_v3 hr_v4 hM H locs ls hw (lv_sub hl [1, 2] rfl)
  have hJ_40 : ∀ (v2 v3 : Int) (I : sk_S), rI v2 → rI v3 → J_Tape_readNumber_40 v2 v3 Q I → ∀ (H : Heap) (locs : List Loc) (ls : Array Slot), sk_W G 198 sk_t I s H locs → lv_has ls 5 [(0, .ref (sk_ad G 1)), (2, .int (iI v2)), (3, .int (iI v3))] → W p l e (headSpec wsX10_readNumber rmX10_readNumber).room s m ([.ref (sk_ad G 1), .int (iI p1), .int (iI p2)].toArray) below meth c H locs 0 0 (MQ below (sk_Qi G 198 sk_t Q) ([.ref (sk_ad G 1), .int (iI p1), .int (iI p2)].toArray) s 0 0 (sk_A G)) (F0 m 40 ls []) := by
    intro v2 v3 I hr_v2 hr_v3 hM H locs ls hw hl
    unfold J_Tape_readNumber_40 at hM
    refine lv_aload_n hx hb (okX10_readNumber (40, .aload_n 0, 1) (List.mem_of_getElem? (i := 21) rfl)) rfl (lv_at hl 0 rfl) ?_
    refine lv_iload_n hx hb (okX10_readNumber (41, .iload_n 3, 1) (List.mem_of_getElem? (i := 22) rfl)) rfl (lv_at hl 2 rfl) ?_
    refine sk_ci (sk_runV (a := 1) (C := RX10) (As := [.int (iI v3)]) (rest := []) S (c_Tape_readDigits l G hr_v3 hM) sk_blind gX10_readNumber_X10_readDigits rfl hdX10_readDigits ⟨⟨rfl, rfl⟩, Nat.le_of_ble_eq_true rfl, Nat.le_of_ble_eq_true rfl⟩ (sk_recv hK hw kdn_1 (kd_in kdn_1) (by decide) rfl) (sk_pre hK hw) rfl hl.1 rfl (Nat.le_of_ble_eq_true rfl) (okX10_readNumber (42, .invokevirtual 61, 3) (List.mem_of_getElem? (i := 23) rfl)) ⟨Nat.zero_le _, Nat.zero_le _⟩) hw (fun r_42 I_42 H locs hr_r_42 hM hw => ?_)
    refine lv_istore (lv' := [(4, .int (iI r_42)), (0, .ref (sk_ad G 1)), (2, .int (iI v2)), (3, .int (iI v3))]) hx hb (okX10_readNumber (45, .istore 4, 2) (List.mem_of_getElem? (i := 24) rfl)) hl (by decide) rfl (fun ls hl => ?_)
    refine lv_aload_n hx hb (okX10_readNumber (47, .aload_n 0, 1) (List.mem_of_getElem? (i := 25) rfl)) rfl (lv_at hl 1 rfl) ?_
    have hr4 := hw.1.2.2 1 3
    refine sk_geti S hK hw kdn_1 (kd_in kdn_1) (C := RX10) (T := TX10) (N := 4) rfl hI10 3 ⟨by decide, rfl, by decide, rfl⟩ rfl (k' := 3) rfl hL0 (okX10_readNumber (48, .getfield 27, 3) (List.mem_of_getElem? (i := 26) rfl)) ?_
    refine sk_if_ne (tgt := 75) hx hb hr4 (okX10_readNumber (51, .ifCond .ne 24, 3) (List.mem_of_getElem? (i := 27) rfl)) (by decide) (fun c51 => ?_) (fun c51 => ?_)
    · have hM := hM.1 c51
      exact hJ_75 v3 r_42 I_42 hr_v3 hr_r_42 hM H locs ls hw (lv_sub hl [1, 3, 0] rfl)
    · have hM := hM.2 c51
      refine lv_aload_n hx hb (okX10_readNumber (54, .aload_n 0, 1) (List.mem_of_getElem? (i := 28) rfl)) rfl (lv_at hl 1 rfl) ?_
      refine sk_ci (sk_runV (a := 1) (C := RX10) (As := []) (rest := []) S (c_Tape_byteHere l G hM) sk_blind gX10_readNumber_X10_byteHere rfl hdX10_byteHere ⟨⟨rfl, rfl⟩, Nat.le_of_ble_eq_true rfl, Nat.le_of_ble_eq_true rfl⟩ (sk_recv hK hw kdn_1 (kd_in kdn_1) (by decide) rfl) (sk_pre hK hw) rfl hl.1 rfl (Nat.le_of_ble_eq_true rfl) (okX10_readNumber (55, .invokevirtual 46, 3) (List.mem_of_getElem? (i := 29) rfl)) ⟨Nat.zero_le _, Nat.zero_le _⟩) hw (fun r_55 I_55 H locs hr_r_55 hM hw => ?_)
      refine lv_iload_n hx hb (okX10_readNumber (58, .iload_n 2, 1) (List.mem_of_getElem? (i := 30) rfl)) rfl (lv_at hl 2 rfl) ?_
      refine sk_icmp_ne (tgt := 75) hx hb hr_r_55 hr_v2 (okX10_readNumber (59, .if_icmp .ne 16, 3) (List.mem_of_getElem? (i := 31) rfl)) (by decide) (fun c59 => ?_) (fun c59 => ?_)
      · have hM := hM.1 c59
        exact hJ_75 v3 r_42 I_55 hr_v3 hr_r_42 hM H locs ls hw (lv_sub hl [1, 3, 0] rfl)
      · have hM := hM.2 c59
        refine lv_aload_n hx hb (okX10_readNumber (62, .aload_n 0, 1) (List.mem_of_getElem? (i := 32) rfl)) rfl (lv_at hl 1 rfl) ?_
        refine lv_dup hx hb (okX10_readNumber (63, .dup, 1) (List.mem_of_getElem? (i := 33) rfl)) rfl ?_
        have hr5 := hw.1.2.2 1 2
        refine sk_geti S hK hw kdn_1 (kd_in kdn_1) (C := RX10) (T := TX10) (N := 4) rfl hI10 2 ⟨by decide, rfl, by decide, rfl⟩ rfl (k' := 2) rfl hL1 (okX10_readNumber (64, .getfield 24, 3) (List.mem_of_getElem? (i := 34) rfl)) ?_
        refine lv_iconst (v := iI 1) hx hb (okX10_readNumber (67, .iconst 1, 1) (List.mem_of_getElem? (i := 35) rfl)) rfl ?_
        refine sk_iadd hx hb (okX10_readNumber (68, .iadd, 1) (List.mem_of_getElem? (i := 36) rfl)) ?_
        obtain ⟨hr6, hM⟩ := hM
        refine sk_put S hK hw kdn_1 (kd_in kdn_1) (C := RX10) (T := TX10) (N := 4) rfl hI10 tyX10 tyX10_ok nmX10 2 ⟨by decide, rfl, by decide, rfl⟩ rfl rfl (k' := 2) rfl hr6 ⟨rfl, rfl⟩ hL1 (okX10_readNumber (69, .putfield 24, 3) (List.mem_of_getElem? (i := 37) rfl)) (fun H locs hw => ?_)
        refine lv_goto (tgt := 80) hx hb (okX10_readNumber (72, .goto 8, 3) (List.mem_of_getElem? (i := 38) rfl)) (by decide) ?_
        exact hJ_80 v3 r_42 (up I_55 1 2 ((I_55 1 2) + 1)) hr_v3 hr_r_42 hM H locs ls hw (lv_sub hl [3, 0] rfl)
  have hJ_25 : ∀ (v2 s0 : Int) (I : sk_S), rI v2 → rI s0 → J_Tape_readNumber_25 v2 s0 Q I → ∀ (H : Heap) (locs : List Loc) (ls : Array Slot), sk_W G 198 sk_t I s H locs → lv_has ls 5 [(0, .ref (sk_ad G 1)), (2, .int (iI v2))] → W p l e (headSpec wsX10_readNumber rmX10_readNumber).room s m ([.ref (sk_ad G 1), .int (iI p1), .int (iI p2)].toArray) below meth c H locs 0 0 (MQ below (sk_Qi G 198 sk_t Q) ([.ref (sk_ad G 1), .int (iI p1), .int (iI p2)].toArray) s 0 0 (sk_A G)) (F0 m 25 ls [.int (iI s0)]) := by
    intro v2 s0 I hr_v2 hr_s0 hM H locs ls hw hl
    unfold J_Tape_readNumber_25 at hM
    refine lv_istore_n (lv' := [(3, .int (iI s0)), (0, .ref (sk_ad G 1)), (2, .int (iI v2))]) hx hb (okX10_readNumber (25, .istore_n 3, 1) (List.mem_of_getElem? (i := 12) rfl)) rfl hl (by decide) rfl (fun ls hl => ?_)
    refine lv_iload_n hx hb (okX10_readNumber (26, .iload_n 3, 1) (List.mem_of_getElem? (i := 13) rfl)) rfl (lv_at hl 0 rfl) ?_
    refine sk_if_eq (tgt := 40) hx hb hr_s0 (okX10_readNumber (27, .ifCond .eq 13, 3) (List.mem_of_getElem? (i := 14) rfl)) (by decide) (fun c27 => ?_) (fun c27 => ?_)
    · have hM := hM.1 c27
      exact hJ_40 v2 s0 I hr_v2 hr_s0 hM H locs ls hw (lv_sub hl [1, 2, 0] rfl)
    · have hM := hM.2 c27
      refine lv_aload_n hx hb (okX10_readNumber (30, .aload_n 0, 1) (List.mem_of_getElem? (i := 15) rfl)) rfl (lv_at hl 1 rfl) ?_
      refine lv_dup hx hb (okX10_readNumber (31, .dup, 1) (List.mem_of_getElem? (i := 16) rfl)) rfl ?_
      have hr2 := hw.1.2.2 1 2
      refine sk_geti S hK hw kdn_1 (kd_in kdn_1) (C := RX10) (T := TX10) (N := 4) rfl hI10 2 ⟨by decide, rfl, by decide, rfl⟩ rfl (k' := 2) rfl hL1 (okX10_readNumber (32, .getfield 24, 3) (List.mem_of_getElem? (i := 17) rfl)) ?_
      refine lv_iconst (v := iI 1) hx hb (okX10_readNumber (35, .iconst 1, 1) (List.mem_of_getElem? (i := 18) rfl)) rfl ?_
      refine sk_iadd hx hb (okX10_readNumber (36, .iadd, 1) (List.mem_of_getElem? (i := 19) rfl)) ?_
      obtain ⟨hr3, hM⟩ := hM
      refine sk_put S hK hw kdn_1 (kd_in kdn_1) (C := RX10) (T := TX10) (N := 4) rfl hI10 tyX10 tyX10_ok nmX10 2 ⟨by decide, rfl, by decide, rfl⟩ rfl rfl (k' := 2) rfl hr3 ⟨rfl, rfl⟩ hL1 (okX10_readNumber (37, .putfield 24, 3) (List.mem_of_getElem? (i := 20) rfl)) (fun H locs hw => ?_)
      exact hJ_40 v2 s0 (up I 1 2 ((I 1 2) + 1)) hr_v2 hr_s0 hM H locs ls hw (lv_sub hl [1, 2, 0] rfl)
  have hJ_24 : ∀ (v2 : Int) (I : sk_S), rI v2 → J_Tape_readNumber_24 v2 Q I → ∀ (H : Heap) (locs : List Loc) (ls : Array Slot), sk_W G 198 sk_t I s H locs → lv_has ls 5 [(0, .ref (sk_ad G 1)), (2, .int (iI v2))] → W p l e (headSpec wsX10_readNumber rmX10_readNumber).room s m ([.ref (sk_ad G 1), .int (iI p1), .int (iI p2)].toArray) below meth c H locs 0 0 (MQ below (sk_Qi G 198 sk_t Q) ([.ref (sk_ad G 1), .int (iI p1), .int (iI p2)].toArray) s 0 0 (sk_A G)) (F0 m 24 ls []) := by
    intro v2 I hr_v2 hM H locs ls hw hl
    unfold J_Tape_readNumber_24 at hM
    refine lv_iconst (v := iI 0) hx hb (okX10_readNumber (24, .iconst 0, 1) (List.mem_of_getElem? (i := 11) rfl)) rfl ?_
    exact hJ_25 v2 0 I hr_v2 (by decide) hM H locs ls hw (lv_sub hl [0, 1] rfl)
  unfold M_Tape_readNumber at hM
  intro H locs hw
  refine lv_aload_n hx hb (okX10_readNumber (0, .aload_n 0, 1) (List.mem_of_getElem? (i := 0) rfl)) rfl (lv_at hl 0 rfl) ?_
  have hr1 := hw.1.2.2 1 3
  refine sk_geti S hK hw kdn_1 (kd_in kdn_1) (C := RX10) (T := TX10) (N := 4) rfl hI10 3 ⟨by decide, rfl, by decide, rfl⟩ rfl (k' := 3) rfl hL0 (okX10_readNumber (1, .getfield 27, 3) (List.mem_of_getElem? (i := 1) rfl)) ?_
  refine sk_if_ne (tgt := 24) hx hb hr1 (okX10_readNumber (4, .ifCond .ne 20, 3) (List.mem_of_getElem? (i := 2) rfl)) (by decide) (fun c4 => ?_) (fun c4 => ?_)
  · have hM := hM.1 c4
    exact hJ_24 p2 I hr_p2 hM H locs ls hw (lv_sub hl [0, 2] rfl)
  · have hM := hM.2 c4
    refine lv_iload_n hx hb (okX10_readNumber (7, .iload_n 1, 1) (List.mem_of_getElem? (i := 3) rfl)) rfl (lv_at hl 1 rfl) ?_
    refine sk_if_eq (tgt := 24) hx hb hr_p1 (okX10_readNumber (8, .ifCond .eq 16, 3) (List.mem_of_getElem? (i := 4) rfl)) (by decide) (fun c8 => ?_) (fun c8 => ?_)
    · have hM := hM.1 c8
      exact hJ_24 p2 I hr_p2 hM H locs ls hw (lv_sub hl [0, 2] rfl)
    · have hM := hM.2 c8
      refine lv_aload_n hx hb (okX10_readNumber (11, .aload_n 0, 1) (List.mem_of_getElem? (i := 5) rfl)) rfl (lv_at hl 0 rfl) ?_
      refine sk_ci (sk_runV (a := 1) (C := RX10) (As := []) (rest := []) S (c_Tape_byteHere l G hM) sk_blind gX10_readNumber_X10_byteHere rfl hdX10_byteHere ⟨⟨rfl, rfl⟩, Nat.le_of_ble_eq_true rfl, Nat.le_of_ble_eq_true rfl⟩ (sk_recv hK hw kdn_1 (kd_in kdn_1) (by decide) rfl) (sk_pre hK hw) rfl hl.1 rfl (Nat.le_of_ble_eq_true rfl) (okX10_readNumber (12, .invokevirtual 46, 3) (List.mem_of_getElem? (i := 6) rfl)) ⟨Nat.zero_le _, Nat.zero_le _⟩) hw (fun r_12 I_12 H locs hr_r_12 hM hw => ?_)
      refine lv_bipush (v := iI 45) hx hb (okX10_readNumber (15, .bipush 45, 2) (List.mem_of_getElem? (i := 7) rfl)) (by decide +kernel) ?_
      refine sk_icmp_ne (tgt := 24) hx hb hr_r_12 (by decide) (okX10_readNumber (17, .if_icmp .ne 7, 3) (List.mem_of_getElem? (i := 8) rfl)) (by decide) (fun c17 => ?_) (fun c17 => ?_)
      · have hM := hM.1 c17
        exact hJ_24 p2 I_12 hr_p2 hM H locs ls hw (lv_sub hl [0, 2] rfl)
      · have hM := hM.2 c17
        refine lv_iconst (v := iI 1) hx hb (okX10_readNumber (20, .iconst 1, 1) (List.mem_of_getElem? (i := 9) rfl)) rfl ?_
        refine lv_goto (tgt := 25) hx hb (okX10_readNumber (21, .goto 4, 3) (List.mem_of_getElem? (i := 10) rfl)) (by decide) ?_
        exact hJ_25 p2 1 I_12 hr_p2 (by decide) hM H locs ls hw (lv_sub hl [0, 2] rfl)
def rmX10_readWorth : Room := { frames := 2, cells := 0, slots := 0, locals := 105 }
set_option maxHeartbeats 4000000 in
set_option maxRecDepth 100000 in
theorem c_Tape_readWorth (l : Launch) (G : sk_G) {Q : Int → sk_S → Prop} {I : sk_S} (hM : M_Tape_readWorth Q I) : Met l yX10_readWorth wsX10_readWorth rmX10_readWorth (va_Pc [.ref (sk_ad G 1)] (sk_U G 198 sk_t I)) (sk_Qi G 198 sk_t Q) 0 0 (sk_A G) := by
  refine Met.ofW (cc := cX10_readWorth) (maxL := 2) (ret := (some .int)) (by decide) rfl ?_
  intro p e s m args below meth c s₁ B hml hv
  obtain ⟨rfl, hU, hK⟩ := hv
  have hx := B.exec
  have hb := B.bytes
  have hr0 := B.returns
  have hts := atoms_spec (ws := wsX10_readWorth) B.pre
  have hown : s.vm.findClass RX10 = some m.cls := findClass_of_methodNamed B.named
  have hlocks := B.notSynchronized
  have S : CallFix p m c cX10_readWorth 2 s ([.ref (sk_ad G 1)].toArray) wsX10_readWorth RX10 := ⟨hx, hb, hml, hown, hts⟩
  have hL0 := hts (.fieldLink RX10 27 "SkyLights$Tape" "faulty" "Z") (by decide +kernel)
  have hL1 := hts (.fieldLink RX10 24 "SkyLights$Tape" "place" "I") (by decide +kernel)
  have hI10 : ∀ w ∈ u_ws RX10 TX10 4, w ∈ wsX10_readWorth := by decide +kernel
  have hw : sk_W G 198 sk_t I s s.heap [] := ⟨hU, va_S.rf⟩
  have hl := lv_entry ([.ref (sk_ad G 1)]) (n := 2) (Nat.le_of_ble_eq_true rfl)
  rw [lg_entry_eq]
  generalize (lg_sl ([.ref (sk_ad G 1)]) ++ List.replicate (2 - (lg_sl ([.ref (sk_ad G 1)])).length) Slot.unset).toArray = ls at hl ⊢
  have hl : lv_has ls 2 [(0, .ref (sk_ad G 1))] := hl
  suffices hgo : ∀ (H : Heap) (locs : List Loc), sk_W G 198 sk_t I s H locs → W p l e (headSpec wsX10_readWorth rmX10_readWorth).room s m ([.ref (sk_ad G 1)].toArray) below meth c H locs 0 0 (MQ below (sk_Qi G 198 sk_t Q) ([.ref (sk_ad G 1)].toArray) s 0 0 (sk_A G)) (F0 m 0 ls []) from hgo _ _ hw
  unfold M_Tape_readWorth at hM
  intro H locs hw
  refine lv_aload_n hx hb (okX10_readWorth (0, .aload_n 0, 1) (List.mem_of_getElem? (i := 0) rfl)) rfl (lv_at hl 0 rfl) ?_
  refine sk_ci (sk_runV (a := 1) (C := RX10) (As := []) (rest := []) S (c_Tape_byteHere l G hM) sk_blind gX10_readWorth_X10_byteHere rfl hdX10_byteHere ⟨⟨rfl, rfl⟩, Nat.le_of_ble_eq_true rfl, Nat.le_of_ble_eq_true rfl⟩ (sk_recv hK hw kdn_1 (kd_in kdn_1) (by decide) rfl) (sk_pre hK hw) rfl hl.1 rfl (Nat.le_of_ble_eq_true rfl) (okX10_readWorth (1, .invokevirtual 46, 3) (List.mem_of_getElem? (i := 1) rfl)) ⟨Nat.zero_le _, Nat.zero_le _⟩) hw (fun r_1 I_1 H locs hr_r_1 hM hw => ?_)
  refine sk_ci (sk_runS (As := [.int (iI r_1)]) (rest := []) S (c_Tape_digitOf l G hr_r_1 hM) sk_blind gX10_readWorth_X10_digitOf rfl hdX10_digitOf ⟨⟨rfl, rfl⟩, Nat.le_of_ble_eq_true rfl, Nat.le_of_ble_eq_true rfl⟩ (sk_pre hK hw) rfl hl.1 rfl (Nat.le_of_ble_eq_true rfl) (okX10_readWorth (4, .invokestatic 65, 3) (List.mem_of_getElem? (i := 2) rfl)) ⟨Nat.zero_le _, Nat.zero_le _⟩) hw (fun r_4 I_4 H locs hr_r_4 hM hw => ?_)
  refine lv_istore_n (lv' := [(1, .int (iI r_4)), (0, .ref (sk_ad G 1))]) hx hb (okX10_readWorth (7, .istore_n 1, 1) (List.mem_of_getElem? (i := 3) rfl)) rfl hl (by decide) rfl (fun ls hl => ?_)
  refine lv_aload_n hx hb (okX10_readWorth (8, .aload_n 0, 1) (List.mem_of_getElem? (i := 4) rfl)) rfl (lv_at hl 1 rfl) ?_
  have hr1 := hw.1.2.2 1 3
  refine sk_geti S hK hw kdn_1 (kd_in kdn_1) (C := RX10) (T := TX10) (N := 4) rfl hI10 3 ⟨by decide, rfl, by decide, rfl⟩ rfl (k' := 3) rfl hL0 (okX10_readWorth (9, .getfield 27, 3) (List.mem_of_getElem? (i := 5) rfl)) ?_
  refine sk_if_ne (tgt := 20) hx hb hr1 (okX10_readWorth (12, .ifCond .ne 8, 3) (List.mem_of_getElem? (i := 6) rfl)) (by decide) (fun c12 => ?_) (fun c12 => ?_)
  · have hM := hM.1 c12
    refine lv_aload_n hx hb (okX10_readWorth (20, .aload_n 0, 1) (List.mem_of_getElem? (i := 10) rfl)) rfl (lv_at hl 1 rfl) ?_
    refine lv_iconst (v := iI 1) hx hb (okX10_readWorth (21, .iconst 1, 1) (List.mem_of_getElem? (i := 11) rfl)) rfl ?_
    refine sk_put S hK hw kdn_1 (kd_in kdn_1) (C := RX10) (T := TX10) (N := 4) rfl hI10 tyX10 tyX10_ok nmX10 3 ⟨by decide, rfl, by decide, rfl⟩ rfl rfl (k' := 3) rfl (by decide) ⟨rfl, rfl⟩ hL0 (okX10_readWorth (22, .putfield 27, 3) (List.mem_of_getElem? (i := 12) rfl)) (fun H locs hw => ?_)
    refine lv_goto (tgt := 38) hx hb (okX10_readWorth (25, .goto 13, 3) (List.mem_of_getElem? (i := 13) rfl)) (by decide) ?_
    refine lv_iload_n hx hb (okX10_readWorth (38, .iload_n 1, 1) (List.mem_of_getElem? (i := 20) rfl)) rfl (lv_at hl 0 rfl) ?_
    exact sk_iret hx hb hr0 hlocks hK hw hr_r_4 hM (okX10_readWorth (39, .ireturn, 1) (List.mem_of_getElem? (i := 21) rfl))
  · have hM := hM.2 c12
    refine lv_iload_n hx hb (okX10_readWorth (15, .iload_n 1, 1) (List.mem_of_getElem? (i := 7) rfl)) rfl (lv_at hl 0 rfl) ?_
    refine lv_iconst (v := iI (-1)) hx hb (okX10_readWorth (16, .iconst (-1), 1) (List.mem_of_getElem? (i := 8) rfl)) rfl ?_
    refine sk_icmp_ne (tgt := 28) hx hb hr_r_4 (by decide) (okX10_readWorth (17, .if_icmp .ne 11, 3) (List.mem_of_getElem? (i := 9) rfl)) (by decide) (fun c17 => ?_) (fun c17 => ?_)
    · have hM := hM.1 c17
      refine lv_aload_n hx hb (okX10_readWorth (28, .aload_n 0, 1) (List.mem_of_getElem? (i := 14) rfl)) rfl (lv_at hl 1 rfl) ?_
      refine lv_dup hx hb (okX10_readWorth (29, .dup, 1) (List.mem_of_getElem? (i := 15) rfl)) rfl ?_
      have hr2 := hw.1.2.2 1 2
      refine sk_geti S hK hw kdn_1 (kd_in kdn_1) (C := RX10) (T := TX10) (N := 4) rfl hI10 2 ⟨by decide, rfl, by decide, rfl⟩ rfl (k' := 2) rfl hL1 (okX10_readWorth (30, .getfield 24, 3) (List.mem_of_getElem? (i := 16) rfl)) ?_
      refine lv_iconst (v := iI 1) hx hb (okX10_readWorth (33, .iconst 1, 1) (List.mem_of_getElem? (i := 17) rfl)) rfl ?_
      refine sk_iadd hx hb (okX10_readWorth (34, .iadd, 1) (List.mem_of_getElem? (i := 18) rfl)) ?_
      obtain ⟨hr3, hM⟩ := hM
      refine sk_put S hK hw kdn_1 (kd_in kdn_1) (C := RX10) (T := TX10) (N := 4) rfl hI10 tyX10 tyX10_ok nmX10 2 ⟨by decide, rfl, by decide, rfl⟩ rfl rfl (k' := 2) rfl hr3 ⟨rfl, rfl⟩ hL1 (okX10_readWorth (35, .putfield 24, 3) (List.mem_of_getElem? (i := 19) rfl)) (fun H locs hw => ?_)
      refine lv_iload_n hx hb (okX10_readWorth (38, .iload_n 1, 1) (List.mem_of_getElem? (i := 20) rfl)) rfl (lv_at hl 0 rfl) ?_
      exact sk_iret hx hb hr0 hlocks hK hw hr_r_4 hM (okX10_readWorth (39, .ireturn, 1) (List.mem_of_getElem? (i := 21) rfl))
    · have hM := hM.2 c17
      refine lv_aload_n hx hb (okX10_readWorth (20, .aload_n 0, 1) (List.mem_of_getElem? (i := 10) rfl)) rfl (lv_at hl 1 rfl) ?_
      refine lv_iconst (v := iI 1) hx hb (okX10_readWorth (21, .iconst 1, 1) (List.mem_of_getElem? (i := 11) rfl)) rfl ?_
      refine sk_put S hK hw kdn_1 (kd_in kdn_1) (C := RX10) (T := TX10) (N := 4) rfl hI10 tyX10 tyX10_ok nmX10 3 ⟨by decide, rfl, by decide, rfl⟩ rfl rfl (k' := 3) rfl (by decide) ⟨rfl, rfl⟩ hL0 (okX10_readWorth (22, .putfield 27, 3) (List.mem_of_getElem? (i := 12) rfl)) (fun H locs hw => ?_)
      refine lv_goto (tgt := 38) hx hb (okX10_readWorth (25, .goto 13, 3) (List.mem_of_getElem? (i := 13) rfl)) (by decide) ?_
      refine lv_iload_n hx hb (okX10_readWorth (38, .iload_n 1, 1) (List.mem_of_getElem? (i := 20) rfl)) rfl (lv_at hl 0 rfl) ?_
      exact sk_iret hx hb hr0 hlocks hK hw hr_r_4 hM (okX10_readWorth (39, .ireturn, 1) (List.mem_of_getElem? (i := 21) rfl))
def rmX10_readPoint : Room := { frames := 4, cells := 0, slots := 0, locals := 220 }
set_option maxHeartbeats 4000000 in
set_option maxRecDepth 100000 in
theorem c_Tape_readPoint (l : Launch) (G : sk_G) {p1 : Int} (hk_p1 : kd p1 = 5) {Q : sk_S → Prop} {I : sk_S} (hM : M_Tape_readPoint p1 Q I) : Met l yX10_readPoint wsX10_readPoint rmX10_readPoint (va_Pc [.ref (sk_ad G 1), .ref (sk_ad G p1)] (sk_U G 198 sk_t I)) (sk_Qv G 198 sk_t Q) 0 0 (sk_A G) := by
  refine Met.ofW (cc := cX10_readPoint) (maxL := 6) (ret := none) (by decide) rfl ?_
  intro p e s m args below meth c s₁ B hml hv
  obtain ⟨rfl, hU, hK⟩ := hv
  have hx := B.exec
  have hb := B.bytes
  have hr0 := B.returns
  have hts := atoms_spec (ws := wsX10_readPoint) B.pre
  have hown : s.vm.findClass RX10 = some m.cls := findClass_of_methodNamed B.named
  have hlocks := B.notSynchronized
  have S : CallFix p m c cX10_readPoint 6 s ([.ref (sk_ad G 1), .ref (sk_ad G p1)].toArray) wsX10_readPoint RX10 := ⟨hx, hb, hml, hown, hts⟩
  have hL0 := hts (.fieldLink RX10 27 "SkyLights$Tape" "faulty" "Z") (by decide +kernel)
  have hI10 : ∀ w ∈ u_ws RX10 TX10 4, w ∈ wsX10_readPoint := by decide +kernel
  have hw : sk_W G 198 sk_t I s s.heap [] := ⟨hU, va_S.rf⟩
  have hl := lv_entry ([.ref (sk_ad G 1), .ref (sk_ad G p1)]) (n := 6) (Nat.le_of_ble_eq_true rfl)
  rw [lg_entry_eq]
  generalize (lg_sl ([.ref (sk_ad G 1), .ref (sk_ad G p1)]) ++ List.replicate (6 - (lg_sl ([.ref (sk_ad G 1), .ref (sk_ad G p1)])).length) Slot.unset).toArray = ls at hl ⊢
  have hl : lv_has ls 6 [(0, .ref (sk_ad G 1)), (1, .ref (sk_ad G p1))] := hl
  suffices hgo : ∀ (H : Heap) (locs : List Loc), sk_W G 198 sk_t I s H locs → W p l e (headSpec wsX10_readPoint rmX10_readPoint).room s m ([.ref (sk_ad G 1), .ref (sk_ad G p1)].toArray) below meth c H locs 0 0 (MQ below (sk_Qv G 198 sk_t Q) ([.ref (sk_ad G 1), .ref (sk_ad G p1)].toArray) s 0 0 (sk_A G)) (F0 m 0 ls []) from hgo _ _ hw
  unfold M_Tape_readPoint at hM
  intro H locs hw
  refine lv_aload_n hx hb (okX10_readPoint (0, .aload_n 0, 1) (List.mem_of_getElem? (i := 0) rfl)) rfl (lv_at hl 0 rfl) ?_
  refine lv_iconst (v := iI 1) hx hb (okX10_readPoint (1, .iconst 1, 1) (List.mem_of_getElem? (i := 1) rfl)) rfl ?_
  refine lv_bipush (v := iI 44) hx hb (okX10_readPoint (2, .bipush 44, 2) (List.mem_of_getElem? (i := 2) rfl)) (by decide +kernel) ?_
  refine sk_ci (sk_runV (a := 1) (C := RX10) (As := [.int (iI 1), .int (iI 44)]) (rest := []) S (c_Tape_readNumber l G (by decide) (by decide) hM) sk_blind gX10_readPoint_X10_readNumber rfl hdX10_readNumber ⟨⟨rfl, rfl⟩, Nat.le_of_ble_eq_true rfl, Nat.le_of_ble_eq_true rfl⟩ (sk_recv hK hw kdn_1 (kd_in kdn_1) (by decide) rfl) (sk_pre hK hw) rfl hl.1 rfl (Nat.le_of_ble_eq_true rfl) (okX10_readPoint (4, .invokevirtual 50, 3) (List.mem_of_getElem? (i := 3) rfl)) ⟨Nat.zero_le _, Nat.zero_le _⟩) hw (fun r_4 I_4 H locs hr_r_4 hM hw => ?_)
  refine lv_istore_n (lv' := [(2, .int (iI r_4)), (0, .ref (sk_ad G 1)), (1, .ref (sk_ad G p1))]) hx hb (okX10_readPoint (7, .istore_n 2, 1) (List.mem_of_getElem? (i := 4) rfl)) rfl hl (by decide) rfl (fun ls hl => ?_)
  refine lv_aload_n hx hb (okX10_readPoint (8, .aload_n 0, 1) (List.mem_of_getElem? (i := 5) rfl)) rfl (lv_at hl 1 rfl) ?_
  refine lv_iconst (v := iI 1) hx hb (okX10_readPoint (9, .iconst 1, 1) (List.mem_of_getElem? (i := 6) rfl)) rfl ?_
  refine lv_bipush (v := iI 44) hx hb (okX10_readPoint (10, .bipush 44, 2) (List.mem_of_getElem? (i := 7) rfl)) (by decide +kernel) ?_
  refine sk_ci (sk_runV (a := 1) (C := RX10) (As := [.int (iI 1), .int (iI 44)]) (rest := []) S (c_Tape_readNumber l G (by decide) (by decide) hM) sk_blind gX10_readPoint_X10_readNumber rfl hdX10_readNumber ⟨⟨rfl, rfl⟩, Nat.le_of_ble_eq_true rfl, Nat.le_of_ble_eq_true rfl⟩ (sk_recv hK hw kdn_1 (kd_in kdn_1) (by decide) rfl) (sk_pre hK hw) rfl hl.1 rfl (Nat.le_of_ble_eq_true rfl) (okX10_readPoint (12, .invokevirtual 50, 3) (List.mem_of_getElem? (i := 8) rfl)) ⟨Nat.zero_le _, Nat.zero_le _⟩) hw (fun r_12 I_12 H locs hr_r_12 hM hw => ?_)
  refine lv_istore_n (lv' := [(3, .int (iI r_12)), (2, .int (iI r_4)), (0, .ref (sk_ad G 1)), (1, .ref (sk_ad G p1))]) hx hb (okX10_readPoint (15, .istore_n 3, 1) (List.mem_of_getElem? (i := 9) rfl)) rfl hl (by decide) rfl (fun ls hl => ?_)
  refine lv_aload_n hx hb (okX10_readPoint (16, .aload_n 0, 1) (List.mem_of_getElem? (i := 10) rfl)) rfl (lv_at hl 2 rfl) ?_
  refine lv_iconst (v := iI 0) hx hb (okX10_readPoint (17, .iconst 0, 1) (List.mem_of_getElem? (i := 11) rfl)) rfl ?_
  refine lv_bipush (v := iI 58) hx hb (okX10_readPoint (18, .bipush 58, 2) (List.mem_of_getElem? (i := 12) rfl)) (by decide +kernel) ?_
  refine sk_ci (sk_runV (a := 1) (C := RX10) (As := [.int (iI 0), .int (iI 58)]) (rest := []) S (c_Tape_readNumber l G (by decide) (by decide) hM) sk_blind gX10_readPoint_X10_readNumber rfl hdX10_readNumber ⟨⟨rfl, rfl⟩, Nat.le_of_ble_eq_true rfl, Nat.le_of_ble_eq_true rfl⟩ (sk_recv hK hw kdn_1 (kd_in kdn_1) (by decide) rfl) (sk_pre hK hw) rfl hl.1 rfl (Nat.le_of_ble_eq_true rfl) (okX10_readPoint (20, .invokevirtual 50, 3) (List.mem_of_getElem? (i := 13) rfl)) ⟨Nat.zero_le _, Nat.zero_le _⟩) hw (fun r_20 I_20 H locs hr_r_20 hM hw => ?_)
  refine lv_istore (lv' := [(4, .int (iI r_20)), (3, .int (iI r_12)), (2, .int (iI r_4)), (0, .ref (sk_ad G 1)), (1, .ref (sk_ad G p1))]) hx hb (okX10_readPoint (23, .istore 4, 2) (List.mem_of_getElem? (i := 14) rfl)) hl (by decide) rfl (fun ls hl => ?_)
  refine lv_aload_n hx hb (okX10_readPoint (25, .aload_n 0, 1) (List.mem_of_getElem? (i := 15) rfl)) rfl (lv_at hl 3 rfl) ?_
  refine sk_ci (sk_runV (a := 1) (C := RX10) (As := []) (rest := []) S (c_Tape_readWorth l G hM) sk_blind gX10_readPoint_X10_readWorth rfl hdX10_readWorth ⟨⟨rfl, rfl⟩, Nat.le_of_ble_eq_true rfl, Nat.le_of_ble_eq_true rfl⟩ (sk_recv hK hw kdn_1 (kd_in kdn_1) (by decide) rfl) (sk_pre hK hw) rfl hl.1 rfl (Nat.le_of_ble_eq_true rfl) (okX10_readPoint (26, .invokevirtual 54, 3) (List.mem_of_getElem? (i := 16) rfl)) ⟨Nat.zero_le _, Nat.zero_le _⟩) hw (fun r_26 I_26 H locs hr_r_26 hM hw => ?_)
  refine lv_istore (lv' := [(5, .int (iI r_26)), (4, .int (iI r_20)), (3, .int (iI r_12)), (2, .int (iI r_4)), (0, .ref (sk_ad G 1)), (1, .ref (sk_ad G p1))]) hx hb (okX10_readPoint (29, .istore 5, 2) (List.mem_of_getElem? (i := 17) rfl)) hl (by decide) rfl (fun ls hl => ?_)
  refine lv_aload_n hx hb (okX10_readPoint (31, .aload_n 0, 1) (List.mem_of_getElem? (i := 18) rfl)) rfl (lv_at hl 4 rfl) ?_
  have hr1 := hw.1.2.2 1 3
  refine sk_geti S hK hw kdn_1 (kd_in kdn_1) (C := RX10) (T := TX10) (N := 4) rfl hI10 3 ⟨by decide, rfl, by decide, rfl⟩ rfl (k' := 3) rfl hL0 (okX10_readPoint (32, .getfield 27, 3) (List.mem_of_getElem? (i := 19) rfl)) ?_
  refine sk_if_ne (tgt := 48) hx hb hr1 (okX10_readPoint (35, .ifCond .ne 13, 3) (List.mem_of_getElem? (i := 20) rfl)) (by decide) (fun c35 => ?_) (fun c35 => ?_)
  · have hM := hM.1 c35
    exact sk_vret hx hb hr0 hlocks hK hw hM (okX10_readPoint (48, .return_, 1) (List.mem_of_getElem? (i := 27) rfl))
  · have hM := hM.2 c35
    refine lv_aload_n hx hb (okX10_readPoint (38, .aload_n 1, 1) (List.mem_of_getElem? (i := 21) rfl)) rfl (lv_at hl 5 rfl) ?_
    refine lv_iload_n hx hb (okX10_readPoint (39, .iload_n 2, 1) (List.mem_of_getElem? (i := 22) rfl)) rfl (lv_at hl 3 rfl) ?_
    refine lv_iload_n hx hb (okX10_readPoint (40, .iload_n 3, 1) (List.mem_of_getElem? (i := 23) rfl)) rfl (lv_at hl 2 rfl) ?_
    refine lv_iload hx hb (okX10_readPoint (41, .iload 4, 2) (List.mem_of_getElem? (i := 24) rfl)) (lv_at hl 1 rfl) ?_
    refine lv_iload hx hb (okX10_readPoint (43, .iload 5, 2) (List.mem_of_getElem? (i := 25) rfl)) (lv_at hl 0 rfl) ?_
    refine sk_cv (sk_runV (a := p1) (C := RX5) (As := [.int (iI r_4), .int (iI r_12), .int (iI r_20), .int (iI r_26)]) (rest := []) S (c_Places_add l G hk_p1 hr_r_4 hr_r_12 hr_r_20 hr_r_26 hM) sk_blind gX10_readPoint_X5_add rfl hdX5_add ⟨⟨rfl, rfl⟩, Nat.le_of_ble_eq_true rfl, Nat.le_of_ble_eq_true rfl⟩ (sk_recv hK hw hk_p1 (kd_in hk_p1) (by decide) rfl) (sk_pre hK hw) rfl hl.1 rfl (Nat.le_of_ble_eq_true rfl) (okX10_readPoint (45, .invokevirtual 57, 3) (List.mem_of_getElem? (i := 26) rfl)) ⟨Nat.zero_le _, Nat.zero_le _⟩) hw (fun I_45 H locs hM hw => ?_)
    exact sk_vret hx hb hr0 hlocks hK hw hM (okX10_readPoint (48, .return_, 1) (List.mem_of_getElem? (i := 27) rfl))
def rmX10_read : Room := { frames := 5, cells := 0, slots := 0, locals := 277 }
set_option maxHeartbeats 4000000 in
set_option maxRecDepth 100000 in
theorem c_Tape_read (l : Launch) (G : sk_G) {p1 : Int} (hk_p1 : kd p1 = 5) {Q : Int → sk_S → Prop} {I : sk_S} (hM : M_Tape_read p1 Q I) : Met l yX10_read wsX10_read rmX10_read (va_Pc [.ref (sk_ad G 1), .ref (sk_ad G p1)] (sk_U G 198 sk_t I)) (sk_Qi G 198 sk_t Q) 0 0 (sk_A G) := by
  refine Met.ofW (cc := cX10_read) (maxL := 3) (ret := (some .int)) (by decide) rfl ?_
  intro p e s m args below meth c s₁ B hml hv
  obtain ⟨rfl, hU, hK⟩ := hv
  have hx := B.exec
  have hb := B.bytes
  have hr0 := B.returns
  have hts := atoms_spec (ws := wsX10_read) B.pre
  have hown : s.vm.findClass RX10 = some m.cls := findClass_of_methodNamed B.named
  have hlocks := B.notSynchronized
  have S : CallFix p m c cX10_read 3 s ([.ref (sk_ad G 1), .ref (sk_ad G p1)].toArray) wsX10_read RX10 := ⟨hx, hb, hml, hown, hts⟩
  have hL0 := hts (.fieldLink RX10 24 "SkyLights$Tape" "place" "I") (by decide +kernel)
  have hL1 := hts (.fieldLink RX10 27 "SkyLights$Tape" "faulty" "Z") (by decide +kernel)
  have hL2 := hts (.fieldLink RX10 20 "SkyLights$Tape" "size" "I") (by decide +kernel)
  have hI10 : ∀ w ∈ u_ws RX10 TX10 4, w ∈ wsX10_read := by decide +kernel
  have hw : sk_W G 198 sk_t I s s.heap [] := ⟨hU, va_S.rf⟩
  have hl := lv_entry ([.ref (sk_ad G 1), .ref (sk_ad G p1)]) (n := 3) (Nat.le_of_ble_eq_true rfl)
  rw [lg_entry_eq]
  generalize (lg_sl ([.ref (sk_ad G 1), .ref (sk_ad G p1)]) ++ List.replicate (3 - (lg_sl ([.ref (sk_ad G 1), .ref (sk_ad G p1)])).length) Slot.unset).toArray = ls at hl ⊢
  have hl : lv_has ls 3 [(0, .ref (sk_ad G 1)), (1, .ref (sk_ad G p1))] := hl
  suffices hgo : ∀ (H : Heap) (locs : List Loc), sk_W G 198 sk_t I s H locs → W p l e (headSpec wsX10_read rmX10_read).room s m ([.ref (sk_ad G 1), .ref (sk_ad G p1)].toArray) below meth c H locs 0 0 (MQ below (sk_Qi G 198 sk_t Q) ([.ref (sk_ad G 1), .ref (sk_ad G p1)].toArray) s 0 0 (sk_A G)) (F0 m 0 ls []) from hgo _ _ hw
  have hJ_16 : ∀ (v1 v2 : Int) (I : sk_S), kd v1 = 5 → rI v2 → L_Tape_read_16 v1 Q v2 I → ∀ (H : Heap) (locs : List Loc) (ls : Array Slot), sk_W G 198 sk_t I s H locs → lv_has ls 3 [(0, .ref (sk_ad G 1)), (1, .ref (sk_ad G v1)), (2, .int (iI v2))] → W p l e (headSpec wsX10_read rmX10_read).room s m ([.ref (sk_ad G 1), .ref (sk_ad G p1)].toArray) below meth c H locs 0 0 (MQ below (sk_Qi G 198 sk_t Q) ([.ref (sk_ad G 1), .ref (sk_ad G p1)].toArray) s 0 0 (sk_A G)) (F0 m 16 ls []) := by
    intro v1 v2 I hk_v1 hr_v2 hM H locs ls hw hl
    unfold L_Tape_read_16 at hM
    obtain ⟨X_16, hX_16⟩ : ∃ X : Int → sk_S → Prop, ∀ (v2 : Int) (I : sk_S), X v2 I ↔ (rI v2 → ∀ (H : Heap) (locs : List Loc) (ls : Array Slot), sk_W G 198 sk_t I s H locs → lv_has ls 3 [(0, .ref (sk_ad G 1)), (1, .ref (sk_ad G v1)), (2, .int (iI v2))] → W p l e (headSpec wsX10_read rmX10_read).room s m ([.ref (sk_ad G 1), .ref (sk_ad G p1)].toArray) below meth c H locs 0 0 (MQ below (sk_Qi G 198 sk_t Q) ([.ref (sk_ad G 1), .ref (sk_ad G p1)].toArray) s 0 0 (sk_A G)) (F0 m 16 ls [])) := ⟨_, fun _ _ => Iff.rfl⟩
    refine (hX_16 v2 I).1 (hM X_16 (fun v2 I hM => (hX_16 v2 I).2 (fun hr_v2 H locs ls hw hl => ?_))) hr_v2 H locs ls hw hl
    refine lv_iload_n hx hb (okX10_read (16, .iload_n 2, 1) (List.mem_of_getElem? (i := 10) rfl)) rfl (lv_at hl 2 rfl) ?_
    refine lv_bipush (v := iI 10) hx hb (okX10_read (17, .bipush 10, 2) (List.mem_of_getElem? (i := 11) rfl)) (by decide +kernel) ?_
    refine sk_icmp_ge (tgt := 82) hx hb hr_v2 (by decide) (okX10_read (19, .if_icmp .ge 63, 3) (List.mem_of_getElem? (i := 12) rfl)) (by decide) (fun c19 => ?_) (fun c19 => ?_)
    · have hM := hM.1 c19
      refine lv_aload_n hx hb (okX10_read (82, .aload_n 0, 1) (List.mem_of_getElem? (i := 44) rfl)) rfl (lv_at hl 0 rfl) ?_
      have hr1 := hw.1.2.2 1 2
      refine sk_geti S hK hw kdn_1 (kd_in kdn_1) (C := RX10) (T := TX10) (N := 4) rfl hI10 2 ⟨by decide, rfl, by decide, rfl⟩ rfl (k' := 2) rfl hL0 (okX10_read (83, .getfield 24, 3) (List.mem_of_getElem? (i := 45) rfl)) ?_
      refine lv_iconst (v := iI 1) hx hb (okX10_read (86, .iconst 1, 1) (List.mem_of_getElem? (i := 46) rfl)) rfl ?_
      refine sk_isub hx hb (okX10_read (87, .isub, 1) (List.mem_of_getElem? (i := 47) rfl)) ?_
      obtain ⟨hr2, hM⟩ := hM
      exact sk_iret hx hb hr0 hlocks hK hw hr2 hM (okX10_read (88, .ireturn, 1) (List.mem_of_getElem? (i := 48) rfl))
    · have hM := hM.2 c19
      refine lv_aload_n hx hb (okX10_read (22, .aload_n 0, 1) (List.mem_of_getElem? (i := 13) rfl)) rfl (lv_at hl 0 rfl) ?_
      refine lv_aload_n hx hb (okX10_read (23, .aload_n 1, 1) (List.mem_of_getElem? (i := 14) rfl)) rfl (lv_at hl 1 rfl) ?_
      refine sk_cv (sk_runV (a := 1) (C := RX10) (As := [.ref (sk_ad G v1)]) (rest := []) S (c_Tape_readPoint l G hk_v1 hM) sk_blind gX10_read_X10_readPoint rfl hdX10_readPoint ⟨⟨rfl, rfl⟩, Nat.le_of_ble_eq_true rfl, Nat.le_of_ble_eq_true rfl⟩ (sk_recv hK hw kdn_1 (kd_in kdn_1) (by decide) rfl) (sk_pre hK hw) rfl hl.1 rfl (Nat.le_of_ble_eq_true rfl) (okX10_read (24, .invokevirtual 42, 3) (List.mem_of_getElem? (i := 15) rfl)) ⟨Nat.zero_le _, Nat.zero_le _⟩) hw (fun I_24 H locs hM hw => ?_)
      refine lv_aload_n hx hb (okX10_read (27, .aload_n 0, 1) (List.mem_of_getElem? (i := 16) rfl)) rfl (lv_at hl 0 rfl) ?_
      have hr3 := hw.1.2.2 1 3
      refine sk_geti S hK hw kdn_1 (kd_in kdn_1) (C := RX10) (T := TX10) (N := 4) rfl hI10 3 ⟨by decide, rfl, by decide, rfl⟩ rfl (k' := 3) rfl hL1 (okX10_read (28, .getfield 27, 3) (List.mem_of_getElem? (i := 17) rfl)) ?_
      refine sk_if_eq (tgt := 39) hx hb hr3 (okX10_read (31, .ifCond .eq 8, 3) (List.mem_of_getElem? (i := 18) rfl)) (by decide) (fun c31 => ?_) (fun c31 => ?_)
      · have hM := hM.1 c31
        refine lv_aload_n hx hb (okX10_read (39, .aload_n 0, 1) (List.mem_of_getElem? (i := 22) rfl)) rfl (lv_at hl 0 rfl) ?_
        have hr4 := hw.1.2.2 1 2
        refine sk_geti S hK hw kdn_1 (kd_in kdn_1) (C := RX10) (T := TX10) (N := 4) rfl hI10 2 ⟨by decide, rfl, by decide, rfl⟩ rfl (k' := 2) rfl hL0 (okX10_read (40, .getfield 24, 3) (List.mem_of_getElem? (i := 23) rfl)) ?_
        refine lv_aload_n hx hb (okX10_read (43, .aload_n 0, 1) (List.mem_of_getElem? (i := 24) rfl)) rfl (lv_at hl 0 rfl) ?_
        have hr5 := hw.1.2.2 1 1
        refine sk_geti S hK hw kdn_1 (kd_in kdn_1) (C := RX10) (T := TX10) (N := 4) rfl hI10 1 ⟨by decide, rfl, by decide, rfl⟩ rfl (k' := 1) rfl hL2 (okX10_read (44, .getfield 20, 3) (List.mem_of_getElem? (i := 25) rfl)) ?_
        refine sk_icmp_lt (tgt := 52) hx hb hr4 hr5 (okX10_read (47, .if_icmp .lt 5, 3) (List.mem_of_getElem? (i := 26) rfl)) (by decide) (fun c47 => ?_) (fun c47 => ?_)
        · have hM := hM.1 c47
          refine lv_aload_n hx hb (okX10_read (52, .aload_n 0, 1) (List.mem_of_getElem? (i := 29) rfl)) rfl (lv_at hl 0 rfl) ?_
          refine sk_ci (sk_runV (a := 1) (C := RX10) (As := []) (rest := []) S (c_Tape_byteHere l G hM) sk_blind gX10_read_X10_byteHere rfl hdX10_byteHere ⟨⟨rfl, rfl⟩, Nat.le_of_ble_eq_true rfl, Nat.le_of_ble_eq_true rfl⟩ (sk_recv hK hw kdn_1 (kd_in kdn_1) (by decide) rfl) (sk_pre hK hw) rfl hl.1 rfl (Nat.le_of_ble_eq_true rfl) (okX10_read (53, .invokevirtual 46, 3) (List.mem_of_getElem? (i := 30) rfl)) ⟨Nat.zero_le _, Nat.zero_le _⟩) hw (fun r_53 I_53 H locs hr_r_53 hM hw => ?_)
          refine lv_bipush (v := iI 59) hx hb (okX10_read (56, .bipush 59, 2) (List.mem_of_getElem? (i := 31) rfl)) (by decide +kernel) ?_
          refine sk_icmp_eq (tgt := 66) hx hb hr_r_53 (by decide) (okX10_read (58, .if_icmp .eq 8, 3) (List.mem_of_getElem? (i := 32) rfl)) (by decide) (fun c58 => ?_) (fun c58 => ?_)
          · have hM := hM.1 c58
            refine lv_aload_n hx hb (okX10_read (66, .aload_n 0, 1) (List.mem_of_getElem? (i := 36) rfl)) rfl (lv_at hl 0 rfl) ?_
            refine lv_dup hx hb (okX10_read (67, .dup, 1) (List.mem_of_getElem? (i := 37) rfl)) rfl ?_
            have hr6 := hw.1.2.2 1 2
            refine sk_geti S hK hw kdn_1 (kd_in kdn_1) (C := RX10) (T := TX10) (N := 4) rfl hI10 2 ⟨by decide, rfl, by decide, rfl⟩ rfl (k' := 2) rfl hL0 (okX10_read (68, .getfield 24, 3) (List.mem_of_getElem? (i := 38) rfl)) ?_
            refine lv_iconst (v := iI 1) hx hb (okX10_read (71, .iconst 1, 1) (List.mem_of_getElem? (i := 39) rfl)) rfl ?_
            refine sk_iadd hx hb (okX10_read (72, .iadd, 1) (List.mem_of_getElem? (i := 40) rfl)) ?_
            obtain ⟨hr7, hM⟩ := hM
            refine sk_put S hK hw kdn_1 (kd_in kdn_1) (C := RX10) (T := TX10) (N := 4) rfl hI10 tyX10 tyX10_ok nmX10 2 ⟨by decide, rfl, by decide, rfl⟩ rfl rfl (k' := 2) rfl hr7 ⟨rfl, rfl⟩ hL0 (okX10_read (73, .putfield 24, 3) (List.mem_of_getElem? (i := 41) rfl)) (fun H locs hw => ?_)
            obtain ⟨hr8, hM⟩ := hM
            obtain ⟨v2_76, ev2_76⟩ : ∃ y : Int, y = v2 + 1 := ⟨_, rfl⟩
            have hM := hM v2_76 ev2_76
            have hr_v2_76 : rI v2_76 := by rw [ev2_76]; exact hr8
            refine lv_iinc (v := iI v2_76) (lv' := [(2, .int (iI v2_76)), (0, .ref (sk_ad G 1)), (1, .ref (sk_ad G v1))]) hx hb (okX10_read (76, .iinc 2 1, 3) (List.mem_of_getElem? (i := 42) rfl)) hl (k := 2) rfl (by rw [ev2_76]; exact iI_add _ _) (by decide) rfl (fun ls hl => ?_)
            refine lv_goto (tgt := 16) hx hb (okX10_read (79, .goto (-63), 3) (List.mem_of_getElem? (i := 43) rfl)) (by decide) ?_
            exact (hX_16 v2_76 (up I_53 1 2 ((I_53 1 2) + 1))).1 hM hr_v2_76 H locs ls hw (lv_sub hl [1, 2, 0] rfl)
          · have hM := hM.2 c58
            refine lv_aload_n hx hb (okX10_read (61, .aload_n 0, 1) (List.mem_of_getElem? (i := 33) rfl)) rfl (lv_at hl 0 rfl) ?_
            have hr9 := hw.1.2.2 1 2
            refine sk_geti S hK hw kdn_1 (kd_in kdn_1) (C := RX10) (T := TX10) (N := 4) rfl hI10 2 ⟨by decide, rfl, by decide, rfl⟩ rfl (k' := 2) rfl hL0 (okX10_read (62, .getfield 24, 3) (List.mem_of_getElem? (i := 34) rfl)) ?_
            exact sk_iret hx hb hr0 hlocks hK hw hr9 hM (okX10_read (65, .ireturn, 1) (List.mem_of_getElem? (i := 35) rfl))
        · have hM := hM.2 c47
          refine lv_iconst (v := iI (-1)) hx hb (okX10_read (50, .iconst (-1), 1) (List.mem_of_getElem? (i := 27) rfl)) rfl ?_
          exact sk_iret hx hb hr0 hlocks hK hw (by decide) hM (okX10_read (51, .ireturn, 1) (List.mem_of_getElem? (i := 28) rfl))
      · have hM := hM.2 c31
        refine lv_aload_n hx hb (okX10_read (34, .aload_n 0, 1) (List.mem_of_getElem? (i := 19) rfl)) rfl (lv_at hl 0 rfl) ?_
        have hr10 := hw.1.2.2 1 2
        refine sk_geti S hK hw kdn_1 (kd_in kdn_1) (C := RX10) (T := TX10) (N := 4) rfl hI10 2 ⟨by decide, rfl, by decide, rfl⟩ rfl (k' := 2) rfl hL0 (okX10_read (35, .getfield 24, 3) (List.mem_of_getElem? (i := 20) rfl)) ?_
        exact sk_iret hx hb hr0 hlocks hK hw hr10 hM (okX10_read (38, .ireturn, 1) (List.mem_of_getElem? (i := 21) rfl))
  unfold M_Tape_read at hM
  intro H locs hw
  refine lv_aload_n hx hb (okX10_read (0, .aload_n 0, 1) (List.mem_of_getElem? (i := 0) rfl)) rfl (lv_at hl 0 rfl) ?_
  refine lv_iconst (v := iI 0) hx hb (okX10_read (1, .iconst 0, 1) (List.mem_of_getElem? (i := 1) rfl)) rfl ?_
  refine sk_put S hK hw kdn_1 (kd_in kdn_1) (C := RX10) (T := TX10) (N := 4) rfl hI10 tyX10 tyX10_ok nmX10 2 ⟨by decide, rfl, by decide, rfl⟩ rfl rfl (k' := 2) rfl (by decide) ⟨rfl, rfl⟩ hL0 (okX10_read (2, .putfield 24, 3) (List.mem_of_getElem? (i := 2) rfl)) (fun H locs hw => ?_)
  refine lv_aload_n hx hb (okX10_read (5, .aload_n 0, 1) (List.mem_of_getElem? (i := 3) rfl)) rfl (lv_at hl 0 rfl) ?_
  refine lv_iconst (v := iI 0) hx hb (okX10_read (6, .iconst 0, 1) (List.mem_of_getElem? (i := 4) rfl)) rfl ?_
  refine sk_put S hK hw kdn_1 (kd_in kdn_1) (C := RX10) (T := TX10) (N := 4) rfl hI10 tyX10 tyX10_ok nmX10 3 ⟨by decide, rfl, by decide, rfl⟩ rfl rfl (k' := 3) rfl (by decide) ⟨rfl, rfl⟩ hL1 (okX10_read (7, .putfield 27, 3) (List.mem_of_getElem? (i := 5) rfl)) (fun H locs hw => ?_)
  refine lv_aload_n hx hb (okX10_read (10, .aload_n 1, 1) (List.mem_of_getElem? (i := 6) rfl)) rfl (lv_at hl 1 rfl) ?_
  refine sk_cv (sk_runV (a := p1) (C := RX5) (As := []) (rest := []) S (c_Places_empty l G hk_p1 hM) sk_blind gX10_read_X5_empty rfl hdX5_empty ⟨⟨rfl, rfl⟩, Nat.le_of_ble_eq_true rfl, Nat.le_of_ble_eq_true rfl⟩ (sk_recv hK hw hk_p1 (kd_in hk_p1) (by decide) rfl) (sk_pre hK hw) rfl hl.1 rfl (Nat.le_of_ble_eq_true rfl) (okX10_read (11, .invokevirtual 37, 3) (List.mem_of_getElem? (i := 7) rfl)) ⟨Nat.zero_le _, Nat.zero_le _⟩) hw (fun I_11 H locs hM hw => ?_)
  refine lv_iconst (v := iI 0) hx hb (okX10_read (14, .iconst 0, 1) (List.mem_of_getElem? (i := 8) rfl)) rfl ?_
  refine lv_istore_n (lv' := [(2, .int (iI 0)), (0, .ref (sk_ad G 1)), (1, .ref (sk_ad G p1))]) hx hb (okX10_read (15, .istore_n 2, 1) (List.mem_of_getElem? (i := 9) rfl)) rfl hl (by decide) rfl (fun ls hl => ?_)
  exact hJ_16 p1 0 I_11 hk_p1 (by decide) hM H locs ls hw (lv_sub hl [1, 2, 0] rfl)
def rmX10_size : Room := { frames := 0, cells := 0, slots := 0, locals := 0 }
set_option maxHeartbeats 4000000 in
set_option maxRecDepth 100000 in
theorem c_Tape_size (l : Launch) (G : sk_G) {Q : Int → sk_S → Prop} {I : sk_S} (hM : M_Tape_size Q I) : Met l yX10_size wsX10_size rmX10_size (va_Pc [.ref (sk_ad G 1)] (sk_U G 198 sk_t I)) (sk_Qi G 198 sk_t Q) 0 0 (sk_A G) := by
  refine Met.ofW (cc := cX10_size) (maxL := 1) (ret := (some .int)) (by decide) rfl ?_
  intro p e s m args below meth c s₁ B hml hv
  obtain ⟨rfl, hU, hK⟩ := hv
  have hx := B.exec
  have hb := B.bytes
  have hr0 := B.returns
  have hts := atoms_spec (ws := wsX10_size) B.pre
  have hown : s.vm.findClass RX10 = some m.cls := findClass_of_methodNamed B.named
  have hlocks := B.notSynchronized
  have S : CallFix p m c cX10_size 1 s ([.ref (sk_ad G 1)].toArray) wsX10_size RX10 := ⟨hx, hb, hml, hown, hts⟩
  have hL0 := hts (.fieldLink RX10 20 "SkyLights$Tape" "size" "I") (by decide +kernel)
  have hI10 : ∀ w ∈ u_ws RX10 TX10 4, w ∈ wsX10_size := by decide +kernel
  have hw : sk_W G 198 sk_t I s s.heap [] := ⟨hU, va_S.rf⟩
  have hl := lv_entry ([.ref (sk_ad G 1)]) (n := 1) (Nat.le_of_ble_eq_true rfl)
  rw [lg_entry_eq]
  generalize (lg_sl ([.ref (sk_ad G 1)]) ++ List.replicate (1 - (lg_sl ([.ref (sk_ad G 1)])).length) Slot.unset).toArray = ls at hl ⊢
  have hl : lv_has ls 1 [(0, .ref (sk_ad G 1))] := hl
  suffices hgo : ∀ (H : Heap) (locs : List Loc), sk_W G 198 sk_t I s H locs → W p l e (headSpec wsX10_size rmX10_size).room s m ([.ref (sk_ad G 1)].toArray) below meth c H locs 0 0 (MQ below (sk_Qi G 198 sk_t Q) ([.ref (sk_ad G 1)].toArray) s 0 0 (sk_A G)) (F0 m 0 ls []) from hgo _ _ hw
  unfold M_Tape_size at hM
  intro H locs hw
  refine lv_aload_n hx hb (okX10_size (0, .aload_n 0, 1) (List.mem_of_getElem? (i := 0) rfl)) rfl (lv_at hl 0 rfl) ?_
  have hr1 := hw.1.2.2 1 1
  refine sk_geti S hK hw kdn_1 (kd_in kdn_1) (C := RX10) (T := TX10) (N := 4) rfl hI10 1 ⟨by decide, rfl, by decide, rfl⟩ rfl (k' := 1) rfl hL0 (okX10_size (1, .getfield 20, 3) (List.mem_of_getElem? (i := 1) rfl)) ?_
  exact sk_iret hx hb hr0 hlocks hK hw hr1 hM (okX10_size (4, .ireturn, 1) (List.mem_of_getElem? (i := 2) rfl))
def rmX11_bit : Room := { frames := 0, cells := 0, slots := 0, locals := 0 }
set_option maxHeartbeats 4000000 in
set_option maxRecDepth 100000 in
theorem c_Sky_bit (l : Launch) (G : sk_G) {p0 : Int} (hr_p0 : rI p0) {Q : Int → sk_S → Prop} {I : sk_S} (hM : M_Sky_bit p0 Q I) : Met l yX11_bit wsX11_bit rmX11_bit (va_Pc [.int (iI p0)] (sk_U G 198 sk_t I)) (sk_Qi G 198 sk_t Q) 0 0 (sk_A G) := by
  refine Met.ofW (cc := cX11_bit) (maxL := 1) (ret := (some .int)) (by decide) rfl ?_
  intro p e s m args below meth c s₁ B hml hv
  obtain ⟨rfl, hU, hK⟩ := hv
  have hx := B.exec
  have hb := B.bytes
  have hr0 := B.returns
  have hts := atoms_spec (ws := wsX11_bit) B.pre
  have hown : s.vm.findClass RX11 = some m.cls := findClass_of_methodNamed B.named
  have hlocks := B.notSynchronized
  have S : CallFix p m c cX11_bit 1 s ([.int (iI p0)].toArray) wsX11_bit RX11 := ⟨hx, hb, hml, hown, hts⟩
  have hw : sk_W G 198 sk_t I s s.heap [] := ⟨hU, va_S.rf⟩
  have hl := lv_entry ([.int (iI p0)]) (n := 1) (Nat.le_of_ble_eq_true rfl)
  rw [lg_entry_eq]
  generalize (lg_sl ([.int (iI p0)]) ++ List.replicate (1 - (lg_sl ([.int (iI p0)])).length) Slot.unset).toArray = ls at hl ⊢
  have hl : lv_has ls 1 [(0, .int (iI p0))] := hl
  suffices hgo : ∀ (H : Heap) (locs : List Loc), sk_W G 198 sk_t I s H locs → W p l e (headSpec wsX11_bit rmX11_bit).room s m ([.int (iI p0)].toArray) below meth c H locs 0 0 (MQ below (sk_Qi G 198 sk_t Q) ([.int (iI p0)].toArray) s 0 0 (sk_A G)) (F0 m 0 ls []) from hgo _ _ hw
  unfold M_Sky_bit at hM
  intro H locs hw
  refine lv_iload_n hx hb (okX11_bit (0, .iload_n 0, 1) (List.mem_of_getElem? (i := 0) rfl)) rfl (lv_at hl 0 rfl) ?_
  refine sk_if_eq (tgt := 8) hx hb hr_p0 (okX11_bit (1, .ifCond .eq 7, 3) (List.mem_of_getElem? (i := 1) rfl)) (by decide) (fun c1 => ?_) (fun c1 => ?_)
  · have hM := hM.1 c1
    refine lv_iconst (v := iI 0) hx hb (okX11_bit (8, .iconst 0, 1) (List.mem_of_getElem? (i := 4) rfl)) rfl ?_
    exact sk_iret hx hb hr0 hlocks hK hw (by decide) hM (okX11_bit (9, .ireturn, 1) (List.mem_of_getElem? (i := 5) rfl))
  · have hM := hM.2 c1
    refine lv_iconst (v := iI 1) hx hb (okX11_bit (4, .iconst 1, 1) (List.mem_of_getElem? (i := 2) rfl)) rfl ?_
    refine lv_goto (tgt := 9) hx hb (okX11_bit (5, .goto 4, 3) (List.mem_of_getElem? (i := 3) rfl)) (by decide) ?_
    exact sk_iret hx hb hr0 hlocks hK hw (by decide) hM (okX11_bit (9, .ireturn, 1) (List.mem_of_getElem? (i := 5) rfl))
