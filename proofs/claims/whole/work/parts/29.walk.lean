def rmX12_begins : Room := { frames := 0, cells := 0, slots := 0, locals := 0 }
set_option maxHeartbeats 4000000 in
set_option maxRecDepth 100000 in
theorem c_Mo_begins (l : Launch) (G : sk_G) {p1 p2 p3 p4 : Int} (hr_p1 : rI p1) (hr_p2 : rI p2) (hr_p3 : rI p3) (hr_p4 : rI p4) {Q : sk_S → Prop} {I : sk_S} (hM : M_Mo_begins p1 p2 p3 p4 Q I) : Met l yX12_begins wsX12_begins rmX12_begins (va_Pc [.ref (sk_ad G 158), .int (iI p1), .int (iI p2), .int (iI p3), .int (iI p4)] (sk_U G 198 sk_t I)) (sk_Qv G 198 sk_t Q) 0 0 (sk_A G) := by
  refine Met.ofW (cc := cX12_begins) (maxL := 7) (ret := none) (by decide) rfl ?_
  intro p e s m args below meth c s₁ B hml hv
  obtain ⟨rfl, hU, hK⟩ := hv
  have hx := B.exec
  have hb := B.bytes
  have hr0 := B.returns
  have hts := atoms_spec (ws := wsX12_begins) B.pre
  have hown : s.vm.findClass RX12 = some m.cls := findClass_of_methodNamed B.named
  have hlocks := B.notSynchronized
  have S : CallFix p m c cX12_begins 7 s ([.ref (sk_ad G 158), .int (iI p1), .int (iI p2), .int (iI p3), .int (iI p4)].toArray) wsX12_begins RX12 := ⟨hx, hb, hml, hown, hts⟩
  have hL0 := hts (.fieldLink RX12 19 "SkyLightsModel" "size" "[I") (by decide +kernel)
  have hL1 := hts (.fieldLink RX12 140 "SkyLightsModel" "flyers" "I") (by decide +kernel)
  have hL2 := hts (.fieldLink RX12 62 "SkyLightsModel" "ticksOf" "[I") (by decide +kernel)
  have hL3 := hts (.fieldLink RX12 65 "SkyLightsModel" "manyOf" "[I") (by decide +kernel)
  have hL4 := hts (.fieldLink RX12 41 "SkyLightsModel" "fromX" "[I") (by decide +kernel)
  have hL5 := hts (.fieldLink RX12 22 "SkyLightsModel" "pointX" "[I") (by decide +kernel)
  have hL6 := hts (.fieldLink RX12 7 "SkyLightsModel" "padX" "[I") (by decide +kernel)
  have hL7 := hts (.fieldLink RX12 44 "SkyLightsModel" "fromY" "[I") (by decide +kernel)
  have hL8 := hts (.fieldLink RX12 25 "SkyLightsModel" "pointY" "[I") (by decide +kernel)
  have hL9 := hts (.fieldLink RX12 13 "SkyLightsModel" "padY" "[I") (by decide +kernel)
  have hL10 := hts (.fieldLink RX12 47 "SkyLightsModel" "fromZ" "[I") (by decide +kernel)
  have hL11 := hts (.fieldLink RX12 28 "SkyLightsModel" "pointZ" "[I") (by decide +kernel)
  have hL12 := hts (.fieldLink RX12 50 "SkyLightsModel" "toX" "[I") (by decide +kernel)
  have hL13 := hts (.fieldLink RX12 53 "SkyLightsModel" "toY" "[I") (by decide +kernel)
  have hL14 := hts (.fieldLink RX12 56 "SkyLightsModel" "toZ" "[I") (by decide +kernel)
  have hL15 := hts (.fieldLink RX12 59 "SkyLightsModel" "wait" "[I") (by decide +kernel)
  have hI12 : ∀ w ∈ u_ws RX12 TX12 53, w ∈ wsX12_begins := by decide +kernel
  have hw : sk_W G 198 sk_t I s s.heap [] := ⟨hU, va_S.rf⟩
  have hl := lv_entry ([.ref (sk_ad G 158), .int (iI p1), .int (iI p2), .int (iI p3), .int (iI p4)]) (n := 7) (Nat.le_of_ble_eq_true rfl)
  rw [lg_entry_eq]
  generalize (lg_sl ([.ref (sk_ad G 158), .int (iI p1), .int (iI p2), .int (iI p3), .int (iI p4)]) ++ List.replicate (7 - (lg_sl ([.ref (sk_ad G 158), .int (iI p1), .int (iI p2), .int (iI p3), .int (iI p4)])).length) Slot.unset).toArray = ls at hl ⊢
  have hl : lv_has ls 7 [(0, .ref (sk_ad G 158)), (1, .int (iI p1)), (2, .int (iI p2)), (3, .int (iI p3)), (4, .int (iI p4))] := hl
  suffices hgo : ∀ (H : Heap) (locs : List Loc), sk_W G 198 sk_t I s H locs → W p l e (headSpec wsX12_begins rmX12_begins).room s m ([.ref (sk_ad G 158), .int (iI p1), .int (iI p2), .int (iI p3), .int (iI p4)].toArray) below meth c H locs 0 0 (MQ below (sk_Qv G 198 sk_t Q) ([.ref (sk_ad G 158), .int (iI p1), .int (iI p2), .int (iI p3), .int (iI p4)].toArray) s 0 0 (sk_A G)) (F0 m 0 ls []) from hgo _ _ hw
  have hJ_38 : ∀ (v1 v2 v3 v5 v6 : Int) (I : sk_S), rI v1 → rI v2 → rI v3 → rI v5 → rI v6 → L_Mo_begins_38 v1 v2 v3 v5 Q v6 I → ∀ (H : Heap) (locs : List Loc) (ls : Array Slot), sk_W G 198 sk_t I s H locs → lv_has ls 7 [(0, .ref (sk_ad G 158)), (1, .int (iI v1)), (2, .int (iI v2)), (3, .int (iI v3)), (5, .int (iI v5)), (6, .int (iI v6))] → W p l e (headSpec wsX12_begins rmX12_begins).room s m ([.ref (sk_ad G 158), .int (iI p1), .int (iI p2), .int (iI p3), .int (iI p4)].toArray) below meth c H locs 0 0 (MQ below (sk_Qv G 198 sk_t Q) ([.ref (sk_ad G 158), .int (iI p1), .int (iI p2), .int (iI p3), .int (iI p4)].toArray) s 0 0 (sk_A G)) (F0 m 38 ls []) := by
    intro v1 v2 v3 v5 v6 I hr_v1 hr_v2 hr_v3 hr_v5 hr_v6 hM H locs ls hw hl
    unfold L_Mo_begins_38 at hM
    obtain ⟨X_38, hX_38⟩ : ∃ X : Int → sk_S → Prop, ∀ (v6 : Int) (I : sk_S), X v6 I ↔ (rI v6 → ∀ (H : Heap) (locs : List Loc) (ls : Array Slot), sk_W G 198 sk_t I s H locs → lv_has ls 7 [(0, .ref (sk_ad G 158)), (1, .int (iI v1)), (2, .int (iI v2)), (3, .int (iI v3)), (5, .int (iI v5)), (6, .int (iI v6))] → W p l e (headSpec wsX12_begins rmX12_begins).room s m ([.ref (sk_ad G 158), .int (iI p1), .int (iI p2), .int (iI p3), .int (iI p4)].toArray) below meth c H locs 0 0 (MQ below (sk_Qv G 198 sk_t Q) ([.ref (sk_ad G 158), .int (iI p1), .int (iI p2), .int (iI p3), .int (iI p4)].toArray) s 0 0 (sk_A G)) (F0 m 38 ls [])) := ⟨_, fun _ _ => Iff.rfl⟩
    have hJ_260 : ∀ (v6 s1 s2 : Int) (I : sk_S), rI v6 → rI s1 → rI s2 → J_Mo_begins_260 v1 v2 v3 v5 v6 s1 s2 Q X_38 I → ∀ (H : Heap) (locs : List Loc) (ls : Array Slot), sk_W G 198 sk_t I s H locs → lv_has ls 7 [(0, .ref (sk_ad G 158)), (1, .int (iI v1)), (2, .int (iI v2)), (3, .int (iI v3)), (5, .int (iI v5)), (6, .int (iI v6))] → W p l e (headSpec wsX12_begins rmX12_begins).room s m ([.ref (sk_ad G 158), .int (iI p1), .int (iI p2), .int (iI p3), .int (iI p4)].toArray) below meth c H locs 0 0 (MQ below (sk_Qv G 198 sk_t Q) ([.ref (sk_ad G 158), .int (iI p1), .int (iI p2), .int (iI p3), .int (iI p4)].toArray) s 0 0 (sk_A G)) (F0 m 260 ls [.int (iI s2), .int (iI s1), .ref (sk_ad G 173)]) := by
      intro v6 s1 s2 I hr_v6 hr_s1 hr_s2 hM H locs ls hw hl
      unfold J_Mo_begins_260 at hM
      obtain ⟨hi43, hM⟩ := hM
      refine sk_ist S hK hw kdn_173 (kd_in kdn_173) (by rw [lnn_173]; exact hi43) hr_s2 (okX12_begins (260, .iastore, 1) (List.mem_of_getElem? (i := 156) rfl)) (fun H locs hw => ?_)
      refine lv_aload_n hx hb (okX12_begins (261, .aload_n 0, 1) (List.mem_of_getElem? (i := 157) rfl)) rfl (lv_at hl 0 rfl) ?_
      refine sk_getr (b := 174) S hK hw kdn_158 (kd_in kdn_158) (C := RX12) (T := TX12) (N := 53) rfl hI12 24 ⟨by decide, rfl, by decide, rfl⟩ rfl (k' := 24) rfl rfl (by decide +kernel) hL15 (okX12_begins (262, .getfield 59, 3) (List.mem_of_getElem? (i := 158) rfl)) ?_
      refine lv_bipush (v := iI 10) hx hb (okX12_begins (265, .bipush 10, 2) (List.mem_of_getElem? (i := 159) rfl)) (by decide +kernel) ?_
      refine lv_iload_n hx hb (okX12_begins (267, .iload_n 1, 1) (List.mem_of_getElem? (i := 160) rfl)) rfl (lv_at hl 1 rfl) ?_
      refine sk_imul hx hb (okX12_begins (268, .imul, 1) (List.mem_of_getElem? (i := 161) rfl)) ?_
      refine lv_iload hx hb (okX12_begins (269, .iload 6, 2) (List.mem_of_getElem? (i := 162) rfl)) (lv_at hl 5 rfl) ?_
      refine sk_iadd hx hb (okX12_begins (271, .iadd, 1) (List.mem_of_getElem? (i := 163) rfl)) ?_
      refine lv_iconst (v := iI 0) hx hb (okX12_begins (272, .iconst 0, 1) (List.mem_of_getElem? (i := 164) rfl)) rfl ?_
      obtain ⟨hi44, hM⟩ := hM
      refine sk_ist S hK hw kdn_174 (kd_in kdn_174) (by rw [lnn_174]; exact hi44) (by decide) (okX12_begins (273, .iastore, 1) (List.mem_of_getElem? (i := 165) rfl)) (fun H locs hw => ?_)
      obtain ⟨hr45, hM⟩ := hM
      obtain ⟨v6_274, ev6_274⟩ : ∃ y : Int, y = v6 + 1 := ⟨_, rfl⟩
      have hM := hM v6_274 ev6_274
      have hr_v6_274 : rI v6_274 := by rw [ev6_274]; exact hr45
      refine lv_iinc (v := iI v6_274) (lv' := [(6, .int (iI v6_274)), (0, .ref (sk_ad G 158)), (1, .int (iI v1)), (2, .int (iI v2)), (3, .int (iI v3)), (5, .int (iI v5))]) hx hb (okX12_begins (274, .iinc 6 1, 3) (List.mem_of_getElem? (i := 166) rfl)) hl (k := 5) rfl (by rw [ev6_274]; exact iI_add _ _) (by decide) rfl (fun ls hl => ?_)
      refine lv_goto (tgt := 38) hx hb (okX12_begins (277, .goto (-239), 3) (List.mem_of_getElem? (i := 167) rfl)) (by decide) ?_
      exact (hX_38 v6_274 (up (up I 173 s1 s2) 174 ((10 * v1) + v6) 0)).1 hM hr_v6_274 H locs ls hw (lv_sub hl [1, 2, 3, 4, 5, 0] rfl)
    have hJ_228 : ∀ (v6 s1 s2 : Int) (I : sk_S), rI v6 → rI s1 → rI s2 → J_Mo_begins_228 v1 v2 v3 v5 v6 s1 s2 Q X_38 I → ∀ (H : Heap) (locs : List Loc) (ls : Array Slot), sk_W G 198 sk_t I s H locs → lv_has ls 7 [(0, .ref (sk_ad G 158)), (1, .int (iI v1)), (2, .int (iI v2)), (3, .int (iI v3)), (5, .int (iI v5)), (6, .int (iI v6))] → W p l e (headSpec wsX12_begins rmX12_begins).room s m ([.ref (sk_ad G 158), .int (iI p1), .int (iI p2), .int (iI p3), .int (iI p4)].toArray) below meth c H locs 0 0 (MQ below (sk_Qv G 198 sk_t Q) ([.ref (sk_ad G 158), .int (iI p1), .int (iI p2), .int (iI p3), .int (iI p4)].toArray) s 0 0 (sk_A G)) (F0 m 228 ls [.int (iI s2), .int (iI s1), .ref (sk_ad G 172)]) := by
      intro v6 s1 s2 I hr_v6 hr_s1 hr_s2 hM H locs ls hw hl
      unfold J_Mo_begins_228 at hM
      obtain ⟨hi38, hM⟩ := hM
      refine sk_ist S hK hw kdn_172 (kd_in kdn_172) (by rw [lnn_172]; exact hi38) hr_s2 (okX12_begins (228, .iastore, 1) (List.mem_of_getElem? (i := 136) rfl)) (fun H locs hw => ?_)
      refine lv_aload_n hx hb (okX12_begins (229, .aload_n 0, 1) (List.mem_of_getElem? (i := 137) rfl)) rfl (lv_at hl 0 rfl) ?_
      refine sk_getr (b := 173) S hK hw kdn_158 (kd_in kdn_158) (C := RX12) (T := TX12) (N := 53) rfl hI12 23 ⟨by decide, rfl, by decide, rfl⟩ rfl (k' := 23) rfl rfl (by decide +kernel) hL14 (okX12_begins (230, .getfield 56, 3) (List.mem_of_getElem? (i := 138) rfl)) ?_
      refine lv_bipush (v := iI 10) hx hb (okX12_begins (233, .bipush 10, 2) (List.mem_of_getElem? (i := 139) rfl)) (by decide +kernel) ?_
      refine lv_iload_n hx hb (okX12_begins (235, .iload_n 1, 1) (List.mem_of_getElem? (i := 140) rfl)) rfl (lv_at hl 1 rfl) ?_
      refine sk_imul hx hb (okX12_begins (236, .imul, 1) (List.mem_of_getElem? (i := 141) rfl)) ?_
      refine lv_iload hx hb (okX12_begins (237, .iload 6, 2) (List.mem_of_getElem? (i := 142) rfl)) (lv_at hl 5 rfl) ?_
      refine sk_iadd hx hb (okX12_begins (239, .iadd, 1) (List.mem_of_getElem? (i := 143) rfl)) ?_
      refine lv_iload_n hx hb (okX12_begins (240, .iload_n 3, 1) (List.mem_of_getElem? (i := 144) rfl)) rfl (lv_at hl 3 rfl) ?_
      refine sk_if_ge (tgt := 248) hx hb hr_v3 (okX12_begins (241, .ifCond .ge 7, 3) (List.mem_of_getElem? (i := 145) rfl)) (by decide) (fun c241 => ?_) (fun c241 => ?_)
      · have hM := hM.1 c241
        refine lv_aload_n hx hb (okX12_begins (248, .aload_n 0, 1) (List.mem_of_getElem? (i := 148) rfl)) rfl (lv_at hl 0 rfl) ?_
        refine sk_getr (b := 165) S hK hw kdn_158 (kd_in kdn_158) (C := RX12) (T := TX12) (N := 53) rfl hI12 6 ⟨by decide, rfl, by decide, rfl⟩ rfl (k' := 6) rfl rfl (by decide +kernel) hL11 (okX12_begins (249, .getfield 28, 3) (List.mem_of_getElem? (i := 149) rfl)) ?_
        refine lv_bipush (v := iI 10) hx hb (okX12_begins (252, .bipush 10, 2) (List.mem_of_getElem? (i := 150) rfl)) (by decide +kernel) ?_
        refine lv_iload_n hx hb (okX12_begins (254, .iload_n 3, 1) (List.mem_of_getElem? (i := 151) rfl)) rfl (lv_at hl 3 rfl) ?_
        refine sk_imul hx hb (okX12_begins (255, .imul, 1) (List.mem_of_getElem? (i := 152) rfl)) ?_
        refine lv_iload hx hb (okX12_begins (256, .iload 6, 2) (List.mem_of_getElem? (i := 153) rfl)) (lv_at hl 5 rfl) ?_
        refine sk_iadd hx hb (okX12_begins (258, .iadd, 1) (List.mem_of_getElem? (i := 154) rfl)) ?_
        obtain ⟨hi39, hM⟩ := hM
        have hr40 := hw.1.2.2 165 ((10 * v3) + v6)
        refine sk_ild S hK hw kdn_165 (kd_in kdn_165) (by rw [lnn_165]; exact hi39) (okX12_begins (259, .iaload, 1) (List.mem_of_getElem? (i := 155) rfl)) ?_
        obtain ⟨hr41, hM⟩ := hM
        exact hJ_260 v6 ((10 * v1) + v6) ((up I 172 s1 s2) 165 ((10 * v3) + v6)) (up I 172 s1 s2) hr_v6 hr41 hr40 hM H locs ls hw (lv_sub hl [0, 1, 2, 3, 4, 5] rfl)
      · have hM := hM.2 c241
        refine lv_iconst (v := iI 0) hx hb (okX12_begins (244, .iconst 0, 1) (List.mem_of_getElem? (i := 146) rfl)) rfl ?_
        refine lv_goto (tgt := 260) hx hb (okX12_begins (245, .goto 15, 3) (List.mem_of_getElem? (i := 147) rfl)) (by decide) ?_
        obtain ⟨hr42, hM⟩ := hM
        exact hJ_260 v6 ((10 * v1) + v6) 0 (up I 172 s1 s2) hr_v6 hr42 (by decide) hM H locs ls hw (lv_sub hl [0, 1, 2, 3, 4, 5] rfl)
    have hJ_190 : ∀ (v6 s1 s2 : Int) (I : sk_S), rI v6 → rI s1 → rI s2 → J_Mo_begins_190 v1 v2 v3 v5 v6 s1 s2 Q X_38 I → ∀ (H : Heap) (locs : List Loc) (ls : Array Slot), sk_W G 198 sk_t I s H locs → lv_has ls 7 [(0, .ref (sk_ad G 158)), (1, .int (iI v1)), (2, .int (iI v2)), (3, .int (iI v3)), (5, .int (iI v5)), (6, .int (iI v6))] → W p l e (headSpec wsX12_begins rmX12_begins).room s m ([.ref (sk_ad G 158), .int (iI p1), .int (iI p2), .int (iI p3), .int (iI p4)].toArray) below meth c H locs 0 0 (MQ below (sk_Qv G 198 sk_t Q) ([.ref (sk_ad G 158), .int (iI p1), .int (iI p2), .int (iI p3), .int (iI p4)].toArray) s 0 0 (sk_A G)) (F0 m 190 ls [.int (iI s2), .int (iI s1), .ref (sk_ad G 171)]) := by
      intro v6 s1 s2 I hr_v6 hr_s1 hr_s2 hM H locs ls hw hl
      unfold J_Mo_begins_190 at hM
      obtain ⟨hi31, hM⟩ := hM
      refine sk_ist S hK hw kdn_171 (kd_in kdn_171) (by rw [lnn_171]; exact hi31) hr_s2 (okX12_begins (190, .iastore, 1) (List.mem_of_getElem? (i := 113) rfl)) (fun H locs hw => ?_)
      refine lv_aload_n hx hb (okX12_begins (191, .aload_n 0, 1) (List.mem_of_getElem? (i := 114) rfl)) rfl (lv_at hl 0 rfl) ?_
      refine sk_getr (b := 172) S hK hw kdn_158 (kd_in kdn_158) (C := RX12) (T := TX12) (N := 53) rfl hI12 22 ⟨by decide, rfl, by decide, rfl⟩ rfl (k' := 22) rfl rfl (by decide +kernel) hL13 (okX12_begins (192, .getfield 53, 3) (List.mem_of_getElem? (i := 115) rfl)) ?_
      refine lv_bipush (v := iI 10) hx hb (okX12_begins (195, .bipush 10, 2) (List.mem_of_getElem? (i := 116) rfl)) (by decide +kernel) ?_
      refine lv_iload_n hx hb (okX12_begins (197, .iload_n 1, 1) (List.mem_of_getElem? (i := 117) rfl)) rfl (lv_at hl 1 rfl) ?_
      refine sk_imul hx hb (okX12_begins (198, .imul, 1) (List.mem_of_getElem? (i := 118) rfl)) ?_
      refine lv_iload hx hb (okX12_begins (199, .iload 6, 2) (List.mem_of_getElem? (i := 119) rfl)) (lv_at hl 5 rfl) ?_
      refine sk_iadd hx hb (okX12_begins (201, .iadd, 1) (List.mem_of_getElem? (i := 120) rfl)) ?_
      refine lv_iload_n hx hb (okX12_begins (202, .iload_n 3, 1) (List.mem_of_getElem? (i := 121) rfl)) rfl (lv_at hl 3 rfl) ?_
      refine sk_if_ge (tgt := 216) hx hb hr_v3 (okX12_begins (203, .ifCond .ge 13, 3) (List.mem_of_getElem? (i := 122) rfl)) (by decide) (fun c203 => ?_) (fun c203 => ?_)
      · have hM := hM.1 c203
        refine lv_aload_n hx hb (okX12_begins (216, .aload_n 0, 1) (List.mem_of_getElem? (i := 128) rfl)) rfl (lv_at hl 0 rfl) ?_
        refine sk_getr (b := 164) S hK hw kdn_158 (kd_in kdn_158) (C := RX12) (T := TX12) (N := 53) rfl hI12 5 ⟨by decide, rfl, by decide, rfl⟩ rfl (k' := 5) rfl rfl (by decide +kernel) hL8 (okX12_begins (217, .getfield 25, 3) (List.mem_of_getElem? (i := 129) rfl)) ?_
        refine lv_bipush (v := iI 10) hx hb (okX12_begins (220, .bipush 10, 2) (List.mem_of_getElem? (i := 130) rfl)) (by decide +kernel) ?_
        refine lv_iload_n hx hb (okX12_begins (222, .iload_n 3, 1) (List.mem_of_getElem? (i := 131) rfl)) rfl (lv_at hl 3 rfl) ?_
        refine sk_imul hx hb (okX12_begins (223, .imul, 1) (List.mem_of_getElem? (i := 132) rfl)) ?_
        refine lv_iload hx hb (okX12_begins (224, .iload 6, 2) (List.mem_of_getElem? (i := 133) rfl)) (lv_at hl 5 rfl) ?_
        refine sk_iadd hx hb (okX12_begins (226, .iadd, 1) (List.mem_of_getElem? (i := 134) rfl)) ?_
        obtain ⟨hi32, hM⟩ := hM
        have hr33 := hw.1.2.2 164 ((10 * v3) + v6)
        refine sk_ild S hK hw kdn_164 (kd_in kdn_164) (by rw [lnn_164]; exact hi32) (okX12_begins (227, .iaload, 1) (List.mem_of_getElem? (i := 135) rfl)) ?_
        obtain ⟨hr34, hM⟩ := hM
        exact hJ_228 v6 ((10 * v1) + v6) ((up I 171 s1 s2) 164 ((10 * v3) + v6)) (up I 171 s1 s2) hr_v6 hr34 hr33 hM H locs ls hw (lv_sub hl [0, 1, 2, 3, 4, 5] rfl)
      · have hM := hM.2 c203
        refine lv_aload_n hx hb (okX12_begins (206, .aload_n 0, 1) (List.mem_of_getElem? (i := 123) rfl)) rfl (lv_at hl 0 rfl) ?_
        refine sk_getr (b := 160) S hK hw kdn_158 (kd_in kdn_158) (C := RX12) (T := TX12) (N := 53) rfl hI12 1 ⟨by decide, rfl, by decide, rfl⟩ rfl (k' := 1) rfl rfl (by decide +kernel) hL9 (okX12_begins (207, .getfield 13, 3) (List.mem_of_getElem? (i := 124) rfl)) ?_
        refine lv_iload hx hb (okX12_begins (210, .iload 6, 2) (List.mem_of_getElem? (i := 125) rfl)) (lv_at hl 5 rfl) ?_
        obtain ⟨hi35, hM⟩ := hM
        have hr36 := hw.1.2.2 160 v6
        refine sk_ild S hK hw kdn_160 (kd_in kdn_160) (by rw [lnn_160]; exact hi35) (okX12_begins (212, .iaload, 1) (List.mem_of_getElem? (i := 126) rfl)) ?_
        refine lv_goto (tgt := 228) hx hb (okX12_begins (213, .goto 15, 3) (List.mem_of_getElem? (i := 127) rfl)) (by decide) ?_
        obtain ⟨hr37, hM⟩ := hM
        exact hJ_228 v6 ((10 * v1) + v6) ((up I 171 s1 s2) 160 v6) (up I 171 s1 s2) hr_v6 hr37 hr36 hM H locs ls hw (lv_sub hl [0, 1, 2, 3, 4, 5] rfl)
    have hJ_152 : ∀ (v6 s1 s2 : Int) (I : sk_S), rI v6 → rI s1 → rI s2 → J_Mo_begins_152 v1 v2 v3 v5 v6 s1 s2 Q X_38 I → ∀ (H : Heap) (locs : List Loc) (ls : Array Slot), sk_W G 198 sk_t I s H locs → lv_has ls 7 [(0, .ref (sk_ad G 158)), (1, .int (iI v1)), (2, .int (iI v2)), (3, .int (iI v3)), (5, .int (iI v5)), (6, .int (iI v6))] → W p l e (headSpec wsX12_begins rmX12_begins).room s m ([.ref (sk_ad G 158), .int (iI p1), .int (iI p2), .int (iI p3), .int (iI p4)].toArray) below meth c H locs 0 0 (MQ below (sk_Qv G 198 sk_t Q) ([.ref (sk_ad G 158), .int (iI p1), .int (iI p2), .int (iI p3), .int (iI p4)].toArray) s 0 0 (sk_A G)) (F0 m 152 ls [.int (iI s2), .int (iI s1), .ref (sk_ad G 170)]) := by
      intro v6 s1 s2 I hr_v6 hr_s1 hr_s2 hM H locs ls hw hl
      unfold J_Mo_begins_152 at hM
      obtain ⟨hi24, hM⟩ := hM
      refine sk_ist S hK hw kdn_170 (kd_in kdn_170) (by rw [lnn_170]; exact hi24) hr_s2 (okX12_begins (152, .iastore, 1) (List.mem_of_getElem? (i := 90) rfl)) (fun H locs hw => ?_)
      refine lv_aload_n hx hb (okX12_begins (153, .aload_n 0, 1) (List.mem_of_getElem? (i := 91) rfl)) rfl (lv_at hl 0 rfl) ?_
      refine sk_getr (b := 171) S hK hw kdn_158 (kd_in kdn_158) (C := RX12) (T := TX12) (N := 53) rfl hI12 21 ⟨by decide, rfl, by decide, rfl⟩ rfl (k' := 21) rfl rfl (by decide +kernel) hL12 (okX12_begins (154, .getfield 50, 3) (List.mem_of_getElem? (i := 92) rfl)) ?_
      refine lv_bipush (v := iI 10) hx hb (okX12_begins (157, .bipush 10, 2) (List.mem_of_getElem? (i := 93) rfl)) (by decide +kernel) ?_
      refine lv_iload_n hx hb (okX12_begins (159, .iload_n 1, 1) (List.mem_of_getElem? (i := 94) rfl)) rfl (lv_at hl 1 rfl) ?_
      refine sk_imul hx hb (okX12_begins (160, .imul, 1) (List.mem_of_getElem? (i := 95) rfl)) ?_
      refine lv_iload hx hb (okX12_begins (161, .iload 6, 2) (List.mem_of_getElem? (i := 96) rfl)) (lv_at hl 5 rfl) ?_
      refine sk_iadd hx hb (okX12_begins (163, .iadd, 1) (List.mem_of_getElem? (i := 97) rfl)) ?_
      refine lv_iload_n hx hb (okX12_begins (164, .iload_n 3, 1) (List.mem_of_getElem? (i := 98) rfl)) rfl (lv_at hl 3 rfl) ?_
      refine sk_if_ge (tgt := 178) hx hb hr_v3 (okX12_begins (165, .ifCond .ge 13, 3) (List.mem_of_getElem? (i := 99) rfl)) (by decide) (fun c165 => ?_) (fun c165 => ?_)
      · have hM := hM.1 c165
        refine lv_aload_n hx hb (okX12_begins (178, .aload_n 0, 1) (List.mem_of_getElem? (i := 105) rfl)) rfl (lv_at hl 0 rfl) ?_
        refine sk_getr (b := 163) S hK hw kdn_158 (kd_in kdn_158) (C := RX12) (T := TX12) (N := 53) rfl hI12 4 ⟨by decide, rfl, by decide, rfl⟩ rfl (k' := 4) rfl rfl (by decide +kernel) hL5 (okX12_begins (179, .getfield 22, 3) (List.mem_of_getElem? (i := 106) rfl)) ?_
        refine lv_bipush (v := iI 10) hx hb (okX12_begins (182, .bipush 10, 2) (List.mem_of_getElem? (i := 107) rfl)) (by decide +kernel) ?_
        refine lv_iload_n hx hb (okX12_begins (184, .iload_n 3, 1) (List.mem_of_getElem? (i := 108) rfl)) rfl (lv_at hl 3 rfl) ?_
        refine sk_imul hx hb (okX12_begins (185, .imul, 1) (List.mem_of_getElem? (i := 109) rfl)) ?_
        refine lv_iload hx hb (okX12_begins (186, .iload 6, 2) (List.mem_of_getElem? (i := 110) rfl)) (lv_at hl 5 rfl) ?_
        refine sk_iadd hx hb (okX12_begins (188, .iadd, 1) (List.mem_of_getElem? (i := 111) rfl)) ?_
        obtain ⟨hi25, hM⟩ := hM
        have hr26 := hw.1.2.2 163 ((10 * v3) + v6)
        refine sk_ild S hK hw kdn_163 (kd_in kdn_163) (by rw [lnn_163]; exact hi25) (okX12_begins (189, .iaload, 1) (List.mem_of_getElem? (i := 112) rfl)) ?_
        obtain ⟨hr27, hM⟩ := hM
        exact hJ_190 v6 ((10 * v1) + v6) ((up I 170 s1 s2) 163 ((10 * v3) + v6)) (up I 170 s1 s2) hr_v6 hr27 hr26 hM H locs ls hw (lv_sub hl [0, 1, 2, 3, 4, 5] rfl)
      · have hM := hM.2 c165
        refine lv_aload_n hx hb (okX12_begins (168, .aload_n 0, 1) (List.mem_of_getElem? (i := 100) rfl)) rfl (lv_at hl 0 rfl) ?_
        refine sk_getr (b := 159) S hK hw kdn_158 (kd_in kdn_158) (C := RX12) (T := TX12) (N := 53) rfl hI12 0 ⟨by decide, rfl, by decide, rfl⟩ rfl (k' := 0) rfl rfl (by decide +kernel) hL6 (okX12_begins (169, .getfield 7, 3) (List.mem_of_getElem? (i := 101) rfl)) ?_
        refine lv_iload hx hb (okX12_begins (172, .iload 6, 2) (List.mem_of_getElem? (i := 102) rfl)) (lv_at hl 5 rfl) ?_
        obtain ⟨hi28, hM⟩ := hM
        have hr29 := hw.1.2.2 159 v6
        refine sk_ild S hK hw kdn_159 (kd_in kdn_159) (by rw [lnn_159]; exact hi28) (okX12_begins (174, .iaload, 1) (List.mem_of_getElem? (i := 103) rfl)) ?_
        refine lv_goto (tgt := 190) hx hb (okX12_begins (175, .goto 15, 3) (List.mem_of_getElem? (i := 104) rfl)) (by decide) ?_
        obtain ⟨hr30, hM⟩ := hM
        exact hJ_190 v6 ((10 * v1) + v6) ((up I 170 s1 s2) 159 v6) (up I 170 s1 s2) hr_v6 hr30 hr29 hM H locs ls hw (lv_sub hl [0, 1, 2, 3, 4, 5] rfl)
    have hJ_120 : ∀ (v6 s1 s2 : Int) (I : sk_S), rI v6 → rI s1 → rI s2 → J_Mo_begins_120 v1 v2 v3 v5 v6 s1 s2 Q X_38 I → ∀ (H : Heap) (locs : List Loc) (ls : Array Slot), sk_W G 198 sk_t I s H locs → lv_has ls 7 [(0, .ref (sk_ad G 158)), (1, .int (iI v1)), (2, .int (iI v2)), (3, .int (iI v3)), (5, .int (iI v5)), (6, .int (iI v6))] → W p l e (headSpec wsX12_begins rmX12_begins).room s m ([.ref (sk_ad G 158), .int (iI p1), .int (iI p2), .int (iI p3), .int (iI p4)].toArray) below meth c H locs 0 0 (MQ below (sk_Qv G 198 sk_t Q) ([.ref (sk_ad G 158), .int (iI p1), .int (iI p2), .int (iI p3), .int (iI p4)].toArray) s 0 0 (sk_A G)) (F0 m 120 ls [.int (iI s2), .int (iI s1), .ref (sk_ad G 169)]) := by
      intro v6 s1 s2 I hr_v6 hr_s1 hr_s2 hM H locs ls hw hl
      unfold J_Mo_begins_120 at hM
      obtain ⟨hi19, hM⟩ := hM
      refine sk_ist S hK hw kdn_169 (kd_in kdn_169) (by rw [lnn_169]; exact hi19) hr_s2 (okX12_begins (120, .iastore, 1) (List.mem_of_getElem? (i := 70) rfl)) (fun H locs hw => ?_)
      refine lv_aload_n hx hb (okX12_begins (121, .aload_n 0, 1) (List.mem_of_getElem? (i := 71) rfl)) rfl (lv_at hl 0 rfl) ?_
      refine sk_getr (b := 170) S hK hw kdn_158 (kd_in kdn_158) (C := RX12) (T := TX12) (N := 53) rfl hI12 20 ⟨by decide, rfl, by decide, rfl⟩ rfl (k' := 20) rfl rfl (by decide +kernel) hL10 (okX12_begins (122, .getfield 47, 3) (List.mem_of_getElem? (i := 72) rfl)) ?_
      refine lv_bipush (v := iI 10) hx hb (okX12_begins (125, .bipush 10, 2) (List.mem_of_getElem? (i := 73) rfl)) (by decide +kernel) ?_
      refine lv_iload_n hx hb (okX12_begins (127, .iload_n 1, 1) (List.mem_of_getElem? (i := 74) rfl)) rfl (lv_at hl 1 rfl) ?_
      refine sk_imul hx hb (okX12_begins (128, .imul, 1) (List.mem_of_getElem? (i := 75) rfl)) ?_
      refine lv_iload hx hb (okX12_begins (129, .iload 6, 2) (List.mem_of_getElem? (i := 76) rfl)) (lv_at hl 5 rfl) ?_
      refine sk_iadd hx hb (okX12_begins (131, .iadd, 1) (List.mem_of_getElem? (i := 77) rfl)) ?_
      refine lv_iload_n hx hb (okX12_begins (132, .iload_n 2, 1) (List.mem_of_getElem? (i := 78) rfl)) rfl (lv_at hl 2 rfl) ?_
      refine sk_if_ge (tgt := 140) hx hb hr_v2 (okX12_begins (133, .ifCond .ge 7, 3) (List.mem_of_getElem? (i := 79) rfl)) (by decide) (fun c133 => ?_) (fun c133 => ?_)
      · have hM := hM.1 c133
        refine lv_aload_n hx hb (okX12_begins (140, .aload_n 0, 1) (List.mem_of_getElem? (i := 82) rfl)) rfl (lv_at hl 0 rfl) ?_
        refine sk_getr (b := 165) S hK hw kdn_158 (kd_in kdn_158) (C := RX12) (T := TX12) (N := 53) rfl hI12 6 ⟨by decide, rfl, by decide, rfl⟩ rfl (k' := 6) rfl rfl (by decide +kernel) hL11 (okX12_begins (141, .getfield 28, 3) (List.mem_of_getElem? (i := 83) rfl)) ?_
        refine lv_bipush (v := iI 10) hx hb (okX12_begins (144, .bipush 10, 2) (List.mem_of_getElem? (i := 84) rfl)) (by decide +kernel) ?_
        refine lv_iload_n hx hb (okX12_begins (146, .iload_n 2, 1) (List.mem_of_getElem? (i := 85) rfl)) rfl (lv_at hl 2 rfl) ?_
        refine sk_imul hx hb (okX12_begins (147, .imul, 1) (List.mem_of_getElem? (i := 86) rfl)) ?_
        refine lv_iload hx hb (okX12_begins (148, .iload 6, 2) (List.mem_of_getElem? (i := 87) rfl)) (lv_at hl 5 rfl) ?_
        refine sk_iadd hx hb (okX12_begins (150, .iadd, 1) (List.mem_of_getElem? (i := 88) rfl)) ?_
        obtain ⟨hi20, hM⟩ := hM
        have hr21 := hw.1.2.2 165 ((10 * v2) + v6)
        refine sk_ild S hK hw kdn_165 (kd_in kdn_165) (by rw [lnn_165]; exact hi20) (okX12_begins (151, .iaload, 1) (List.mem_of_getElem? (i := 89) rfl)) ?_
        obtain ⟨hr22, hM⟩ := hM
        exact hJ_152 v6 ((10 * v1) + v6) ((up I 169 s1 s2) 165 ((10 * v2) + v6)) (up I 169 s1 s2) hr_v6 hr22 hr21 hM H locs ls hw (lv_sub hl [0, 1, 2, 3, 4, 5] rfl)
      · have hM := hM.2 c133
        refine lv_iconst (v := iI 0) hx hb (okX12_begins (136, .iconst 0, 1) (List.mem_of_getElem? (i := 80) rfl)) rfl ?_
        refine lv_goto (tgt := 152) hx hb (okX12_begins (137, .goto 15, 3) (List.mem_of_getElem? (i := 81) rfl)) (by decide) ?_
        obtain ⟨hr23, hM⟩ := hM
        exact hJ_152 v6 ((10 * v1) + v6) 0 (up I 169 s1 s2) hr_v6 hr23 (by decide) hM H locs ls hw (lv_sub hl [0, 1, 2, 3, 4, 5] rfl)
    have hJ_82 : ∀ (v6 s1 s2 : Int) (I : sk_S), rI v6 → rI s1 → rI s2 → J_Mo_begins_82 v1 v2 v3 v5 v6 s1 s2 Q X_38 I → ∀ (H : Heap) (locs : List Loc) (ls : Array Slot), sk_W G 198 sk_t I s H locs → lv_has ls 7 [(0, .ref (sk_ad G 158)), (1, .int (iI v1)), (2, .int (iI v2)), (3, .int (iI v3)), (5, .int (iI v5)), (6, .int (iI v6))] → W p l e (headSpec wsX12_begins rmX12_begins).room s m ([.ref (sk_ad G 158), .int (iI p1), .int (iI p2), .int (iI p3), .int (iI p4)].toArray) below meth c H locs 0 0 (MQ below (sk_Qv G 198 sk_t Q) ([.ref (sk_ad G 158), .int (iI p1), .int (iI p2), .int (iI p3), .int (iI p4)].toArray) s 0 0 (sk_A G)) (F0 m 82 ls [.int (iI s2), .int (iI s1), .ref (sk_ad G 168)]) := by
      intro v6 s1 s2 I hr_v6 hr_s1 hr_s2 hM H locs ls hw hl
      unfold J_Mo_begins_82 at hM
      obtain ⟨hi12, hM⟩ := hM
      refine sk_ist S hK hw kdn_168 (kd_in kdn_168) (by rw [lnn_168]; exact hi12) hr_s2 (okX12_begins (82, .iastore, 1) (List.mem_of_getElem? (i := 47) rfl)) (fun H locs hw => ?_)
      refine lv_aload_n hx hb (okX12_begins (83, .aload_n 0, 1) (List.mem_of_getElem? (i := 48) rfl)) rfl (lv_at hl 0 rfl) ?_
      refine sk_getr (b := 169) S hK hw kdn_158 (kd_in kdn_158) (C := RX12) (T := TX12) (N := 53) rfl hI12 19 ⟨by decide, rfl, by decide, rfl⟩ rfl (k' := 19) rfl rfl (by decide +kernel) hL7 (okX12_begins (84, .getfield 44, 3) (List.mem_of_getElem? (i := 49) rfl)) ?_
      refine lv_bipush (v := iI 10) hx hb (okX12_begins (87, .bipush 10, 2) (List.mem_of_getElem? (i := 50) rfl)) (by decide +kernel) ?_
      refine lv_iload_n hx hb (okX12_begins (89, .iload_n 1, 1) (List.mem_of_getElem? (i := 51) rfl)) rfl (lv_at hl 1 rfl) ?_
      refine sk_imul hx hb (okX12_begins (90, .imul, 1) (List.mem_of_getElem? (i := 52) rfl)) ?_
      refine lv_iload hx hb (okX12_begins (91, .iload 6, 2) (List.mem_of_getElem? (i := 53) rfl)) (lv_at hl 5 rfl) ?_
      refine sk_iadd hx hb (okX12_begins (93, .iadd, 1) (List.mem_of_getElem? (i := 54) rfl)) ?_
      refine lv_iload_n hx hb (okX12_begins (94, .iload_n 2, 1) (List.mem_of_getElem? (i := 55) rfl)) rfl (lv_at hl 2 rfl) ?_
      refine sk_if_ge (tgt := 108) hx hb hr_v2 (okX12_begins (95, .ifCond .ge 13, 3) (List.mem_of_getElem? (i := 56) rfl)) (by decide) (fun c95 => ?_) (fun c95 => ?_)
      · have hM := hM.1 c95
        refine lv_aload_n hx hb (okX12_begins (108, .aload_n 0, 1) (List.mem_of_getElem? (i := 62) rfl)) rfl (lv_at hl 0 rfl) ?_
        refine sk_getr (b := 164) S hK hw kdn_158 (kd_in kdn_158) (C := RX12) (T := TX12) (N := 53) rfl hI12 5 ⟨by decide, rfl, by decide, rfl⟩ rfl (k' := 5) rfl rfl (by decide +kernel) hL8 (okX12_begins (109, .getfield 25, 3) (List.mem_of_getElem? (i := 63) rfl)) ?_
        refine lv_bipush (v := iI 10) hx hb (okX12_begins (112, .bipush 10, 2) (List.mem_of_getElem? (i := 64) rfl)) (by decide +kernel) ?_
        refine lv_iload_n hx hb (okX12_begins (114, .iload_n 2, 1) (List.mem_of_getElem? (i := 65) rfl)) rfl (lv_at hl 2 rfl) ?_
        refine sk_imul hx hb (okX12_begins (115, .imul, 1) (List.mem_of_getElem? (i := 66) rfl)) ?_
        refine lv_iload hx hb (okX12_begins (116, .iload 6, 2) (List.mem_of_getElem? (i := 67) rfl)) (lv_at hl 5 rfl) ?_
        refine sk_iadd hx hb (okX12_begins (118, .iadd, 1) (List.mem_of_getElem? (i := 68) rfl)) ?_
        obtain ⟨hi13, hM⟩ := hM
        have hr14 := hw.1.2.2 164 ((10 * v2) + v6)
        refine sk_ild S hK hw kdn_164 (kd_in kdn_164) (by rw [lnn_164]; exact hi13) (okX12_begins (119, .iaload, 1) (List.mem_of_getElem? (i := 69) rfl)) ?_
        obtain ⟨hr15, hM⟩ := hM
        exact hJ_120 v6 ((10 * v1) + v6) ((up I 168 s1 s2) 164 ((10 * v2) + v6)) (up I 168 s1 s2) hr_v6 hr15 hr14 hM H locs ls hw (lv_sub hl [0, 1, 2, 3, 4, 5] rfl)
      · have hM := hM.2 c95
        refine lv_aload_n hx hb (okX12_begins (98, .aload_n 0, 1) (List.mem_of_getElem? (i := 57) rfl)) rfl (lv_at hl 0 rfl) ?_
        refine sk_getr (b := 160) S hK hw kdn_158 (kd_in kdn_158) (C := RX12) (T := TX12) (N := 53) rfl hI12 1 ⟨by decide, rfl, by decide, rfl⟩ rfl (k' := 1) rfl rfl (by decide +kernel) hL9 (okX12_begins (99, .getfield 13, 3) (List.mem_of_getElem? (i := 58) rfl)) ?_
        refine lv_iload hx hb (okX12_begins (102, .iload 6, 2) (List.mem_of_getElem? (i := 59) rfl)) (lv_at hl 5 rfl) ?_
        obtain ⟨hi16, hM⟩ := hM
        have hr17 := hw.1.2.2 160 v6
        refine sk_ild S hK hw kdn_160 (kd_in kdn_160) (by rw [lnn_160]; exact hi16) (okX12_begins (104, .iaload, 1) (List.mem_of_getElem? (i := 60) rfl)) ?_
        refine lv_goto (tgt := 120) hx hb (okX12_begins (105, .goto 15, 3) (List.mem_of_getElem? (i := 61) rfl)) (by decide) ?_
        obtain ⟨hr18, hM⟩ := hM
        exact hJ_120 v6 ((10 * v1) + v6) ((up I 168 s1 s2) 160 v6) (up I 168 s1 s2) hr_v6 hr18 hr17 hM H locs ls hw (lv_sub hl [0, 1, 2, 3, 4, 5] rfl)
    refine (hX_38 v6 I).1 (hM X_38 (fun v6 I hM => (hX_38 v6 I).2 (fun hr_v6 H locs ls hw hl => ?_))) hr_v6 H locs ls hw hl
    refine lv_iload hx hb (okX12_begins (38, .iload 6, 2) (List.mem_of_getElem? (i := 22) rfl)) (lv_at hl 5 rfl) ?_
    refine lv_iload hx hb (okX12_begins (40, .iload 5, 2) (List.mem_of_getElem? (i := 23) rfl)) (lv_at hl 4 rfl) ?_
    refine sk_icmp_ge (tgt := 280) hx hb hr_v6 hr_v5 (okX12_begins (42, .if_icmp .ge 238, 3) (List.mem_of_getElem? (i := 24) rfl)) (by decide) (fun c42 => ?_) (fun c42 => ?_)
    · have hM := hM.1 c42
      exact sk_vret hx hb hr0 hlocks hK hw hM (okX12_begins (280, .return_, 1) (List.mem_of_getElem? (i := 168) rfl))
    · have hM := hM.2 c42
      refine lv_aload_n hx hb (okX12_begins (45, .aload_n 0, 1) (List.mem_of_getElem? (i := 25) rfl)) rfl (lv_at hl 0 rfl) ?_
      refine sk_getr (b := 168) S hK hw kdn_158 (kd_in kdn_158) (C := RX12) (T := TX12) (N := 53) rfl hI12 18 ⟨by decide, rfl, by decide, rfl⟩ rfl (k' := 18) rfl rfl (by decide +kernel) hL4 (okX12_begins (46, .getfield 41, 3) (List.mem_of_getElem? (i := 26) rfl)) ?_
      refine lv_bipush (v := iI 10) hx hb (okX12_begins (49, .bipush 10, 2) (List.mem_of_getElem? (i := 27) rfl)) (by decide +kernel) ?_
      refine lv_iload_n hx hb (okX12_begins (51, .iload_n 1, 1) (List.mem_of_getElem? (i := 28) rfl)) rfl (lv_at hl 1 rfl) ?_
      refine sk_imul hx hb (okX12_begins (52, .imul, 1) (List.mem_of_getElem? (i := 29) rfl)) ?_
      refine lv_iload hx hb (okX12_begins (53, .iload 6, 2) (List.mem_of_getElem? (i := 30) rfl)) (lv_at hl 5 rfl) ?_
      refine sk_iadd hx hb (okX12_begins (55, .iadd, 1) (List.mem_of_getElem? (i := 31) rfl)) ?_
      refine lv_iload_n hx hb (okX12_begins (56, .iload_n 2, 1) (List.mem_of_getElem? (i := 32) rfl)) rfl (lv_at hl 2 rfl) ?_
      refine sk_if_ge (tgt := 70) hx hb hr_v2 (okX12_begins (57, .ifCond .ge 13, 3) (List.mem_of_getElem? (i := 33) rfl)) (by decide) (fun c57 => ?_) (fun c57 => ?_)
      · have hM := hM.1 c57
        refine lv_aload_n hx hb (okX12_begins (70, .aload_n 0, 1) (List.mem_of_getElem? (i := 39) rfl)) rfl (lv_at hl 0 rfl) ?_
        refine sk_getr (b := 163) S hK hw kdn_158 (kd_in kdn_158) (C := RX12) (T := TX12) (N := 53) rfl hI12 4 ⟨by decide, rfl, by decide, rfl⟩ rfl (k' := 4) rfl rfl (by decide +kernel) hL5 (okX12_begins (71, .getfield 22, 3) (List.mem_of_getElem? (i := 40) rfl)) ?_
        refine lv_bipush (v := iI 10) hx hb (okX12_begins (74, .bipush 10, 2) (List.mem_of_getElem? (i := 41) rfl)) (by decide +kernel) ?_
        refine lv_iload_n hx hb (okX12_begins (76, .iload_n 2, 1) (List.mem_of_getElem? (i := 42) rfl)) rfl (lv_at hl 2 rfl) ?_
        refine sk_imul hx hb (okX12_begins (77, .imul, 1) (List.mem_of_getElem? (i := 43) rfl)) ?_
        refine lv_iload hx hb (okX12_begins (78, .iload 6, 2) (List.mem_of_getElem? (i := 44) rfl)) (lv_at hl 5 rfl) ?_
        refine sk_iadd hx hb (okX12_begins (80, .iadd, 1) (List.mem_of_getElem? (i := 45) rfl)) ?_
        obtain ⟨hi6, hM⟩ := hM
        have hr7 := hw.1.2.2 163 ((10 * v2) + v6)
        refine sk_ild S hK hw kdn_163 (kd_in kdn_163) (by rw [lnn_163]; exact hi6) (okX12_begins (81, .iaload, 1) (List.mem_of_getElem? (i := 46) rfl)) ?_
        obtain ⟨hr8, hM⟩ := hM
        exact hJ_82 v6 ((10 * v1) + v6) (I 163 ((10 * v2) + v6)) I hr_v6 hr8 hr7 hM H locs ls hw (lv_sub hl [0, 1, 2, 3, 4, 5] rfl)
      · have hM := hM.2 c57
        refine lv_aload_n hx hb (okX12_begins (60, .aload_n 0, 1) (List.mem_of_getElem? (i := 34) rfl)) rfl (lv_at hl 0 rfl) ?_
        refine sk_getr (b := 159) S hK hw kdn_158 (kd_in kdn_158) (C := RX12) (T := TX12) (N := 53) rfl hI12 0 ⟨by decide, rfl, by decide, rfl⟩ rfl (k' := 0) rfl rfl (by decide +kernel) hL6 (okX12_begins (61, .getfield 7, 3) (List.mem_of_getElem? (i := 35) rfl)) ?_
        refine lv_iload hx hb (okX12_begins (64, .iload 6, 2) (List.mem_of_getElem? (i := 36) rfl)) (lv_at hl 5 rfl) ?_
        obtain ⟨hi9, hM⟩ := hM
        have hr10 := hw.1.2.2 159 v6
        refine sk_ild S hK hw kdn_159 (kd_in kdn_159) (by rw [lnn_159]; exact hi9) (okX12_begins (66, .iaload, 1) (List.mem_of_getElem? (i := 37) rfl)) ?_
        refine lv_goto (tgt := 82) hx hb (okX12_begins (67, .goto 15, 3) (List.mem_of_getElem? (i := 38) rfl)) (by decide) ?_
        obtain ⟨hr11, hM⟩ := hM
        exact hJ_82 v6 ((10 * v1) + v6) (I 159 v6) I hr_v6 hr11 hr10 hM H locs ls hw (lv_sub hl [0, 1, 2, 3, 4, 5] rfl)
  have hJ_17 : ∀ (v1 v2 v3 v4 s0 : Int) (I : sk_S), rI v1 → rI v2 → rI v3 → rI v4 → rI s0 → J_Mo_begins_17 v1 v2 v3 v4 s0 Q I → ∀ (H : Heap) (locs : List Loc) (ls : Array Slot), sk_W G 198 sk_t I s H locs → lv_has ls 7 [(0, .ref (sk_ad G 158)), (1, .int (iI v1)), (2, .int (iI v2)), (3, .int (iI v3)), (4, .int (iI v4))] → W p l e (headSpec wsX12_begins rmX12_begins).room s m ([.ref (sk_ad G 158), .int (iI p1), .int (iI p2), .int (iI p3), .int (iI p4)].toArray) below meth c H locs 0 0 (MQ below (sk_Qv G 198 sk_t Q) ([.ref (sk_ad G 158), .int (iI p1), .int (iI p2), .int (iI p3), .int (iI p4)].toArray) s 0 0 (sk_A G)) (F0 m 17 ls [.int (iI s0)]) := by
    intro v1 v2 v3 v4 s0 I hr_v1 hr_v2 hr_v3 hr_v4 hr_s0 hM H locs ls hw hl
    unfold J_Mo_begins_17 at hM
    refine lv_istore (lv' := [(5, .int (iI s0)), (0, .ref (sk_ad G 158)), (1, .int (iI v1)), (2, .int (iI v2)), (3, .int (iI v3)), (4, .int (iI v4))]) hx hb (okX12_begins (17, .istore 5, 2) (List.mem_of_getElem? (i := 9) rfl)) hl (by decide) rfl (fun ls hl => ?_)
    refine lv_aload_n hx hb (okX12_begins (19, .aload_n 0, 1) (List.mem_of_getElem? (i := 10) rfl)) rfl (lv_at hl 1 rfl) ?_
    refine sk_getr (b := 175) S hK hw kdn_158 (kd_in kdn_158) (C := RX12) (T := TX12) (N := 53) rfl hI12 25 ⟨by decide, rfl, by decide, rfl⟩ rfl (k' := 25) rfl rfl (by decide +kernel) hL2 (okX12_begins (20, .getfield 62, 3) (List.mem_of_getElem? (i := 11) rfl)) ?_
    refine lv_iload_n hx hb (okX12_begins (23, .iload_n 1, 1) (List.mem_of_getElem? (i := 12) rfl)) rfl (lv_at hl 2 rfl) ?_
    refine lv_iload hx hb (okX12_begins (24, .iload 4, 2) (List.mem_of_getElem? (i := 13) rfl)) (lv_at hl 5 rfl) ?_
    obtain ⟨hi4, hM⟩ := hM
    refine sk_ist S hK hw kdn_175 (kd_in kdn_175) (by rw [lnn_175]; exact hi4) hr_v4 (okX12_begins (26, .iastore, 1) (List.mem_of_getElem? (i := 14) rfl)) (fun H locs hw => ?_)
    refine lv_aload_n hx hb (okX12_begins (27, .aload_n 0, 1) (List.mem_of_getElem? (i := 15) rfl)) rfl (lv_at hl 1 rfl) ?_
    refine sk_getr (b := 176) S hK hw kdn_158 (kd_in kdn_158) (C := RX12) (T := TX12) (N := 53) rfl hI12 26 ⟨by decide, rfl, by decide, rfl⟩ rfl (k' := 26) rfl rfl (by decide +kernel) hL3 (okX12_begins (28, .getfield 65, 3) (List.mem_of_getElem? (i := 16) rfl)) ?_
    refine lv_iload_n hx hb (okX12_begins (31, .iload_n 1, 1) (List.mem_of_getElem? (i := 17) rfl)) rfl (lv_at hl 2 rfl) ?_
    refine lv_iload hx hb (okX12_begins (32, .iload 5, 2) (List.mem_of_getElem? (i := 18) rfl)) (lv_at hl 0 rfl) ?_
    obtain ⟨hi5, hM⟩ := hM
    refine sk_ist S hK hw kdn_176 (kd_in kdn_176) (by rw [lnn_176]; exact hi5) hr_s0 (okX12_begins (34, .iastore, 1) (List.mem_of_getElem? (i := 19) rfl)) (fun H locs hw => ?_)
    refine lv_iconst (v := iI 0) hx hb (okX12_begins (35, .iconst 0, 1) (List.mem_of_getElem? (i := 20) rfl)) rfl ?_
    refine lv_istore (lv' := [(6, .int (iI 0)), (5, .int (iI s0)), (0, .ref (sk_ad G 158)), (1, .int (iI v1)), (2, .int (iI v2)), (3, .int (iI v3)), (4, .int (iI v4))]) hx hb (okX12_begins (36, .istore 6, 2) (List.mem_of_getElem? (i := 21) rfl)) hl (by decide) rfl (fun ls hl => ?_)
    exact hJ_38 v1 v2 v3 s0 0 (up (up I 175 v1 v4) 176 v1 s0) hr_v1 hr_v2 hr_v3 hr_s0 (by decide) hM H locs ls hw (lv_sub hl [2, 3, 4, 5, 1, 0] rfl)
  unfold M_Mo_begins at hM
  intro H locs hw
  refine lv_iload_n hx hb (okX12_begins (0, .iload_n 3, 1) (List.mem_of_getElem? (i := 0) rfl)) rfl (lv_at hl 3 rfl) ?_
  refine sk_if_ge (tgt := 11) hx hb hr_p3 (okX12_begins (1, .ifCond .ge 10, 3) (List.mem_of_getElem? (i := 1) rfl)) (by decide) (fun c1 => ?_) (fun c1 => ?_)
  · have hM := hM.1 c1
    refine lv_aload_n hx hb (okX12_begins (11, .aload_n 0, 1) (List.mem_of_getElem? (i := 5) rfl)) rfl (lv_at hl 0 rfl) ?_
    refine sk_getr (b := 162) S hK hw kdn_158 (kd_in kdn_158) (C := RX12) (T := TX12) (N := 53) rfl hI12 3 ⟨by decide, rfl, by decide, rfl⟩ rfl (k' := 3) rfl rfl (by decide +kernel) hL0 (okX12_begins (12, .getfield 19, 3) (List.mem_of_getElem? (i := 6) rfl)) ?_
    refine lv_iload_n hx hb (okX12_begins (15, .iload_n 3, 1) (List.mem_of_getElem? (i := 7) rfl)) rfl (lv_at hl 3 rfl) ?_
    obtain ⟨hi1, hM⟩ := hM
    have hr2 := hw.1.2.2 162 p3
    refine sk_ild S hK hw kdn_162 (kd_in kdn_162) (by rw [lnn_162]; exact hi1) (okX12_begins (16, .iaload, 1) (List.mem_of_getElem? (i := 8) rfl)) ?_
    exact hJ_17 p1 p2 p3 p4 (I 162 p3) I hr_p1 hr_p2 hr_p3 hr_p4 hr2 hM H locs ls hw (lv_sub hl [0, 1, 2, 3, 4] rfl)
  · have hM := hM.2 c1
    refine lv_aload_n hx hb (okX12_begins (4, .aload_n 0, 1) (List.mem_of_getElem? (i := 2) rfl)) rfl (lv_at hl 0 rfl) ?_
    have hr3 := hw.1.2.2 158 8
    refine sk_geti S hK hw kdn_158 (kd_in kdn_158) (C := RX12) (T := TX12) (N := 53) rfl hI12 8 ⟨by decide, rfl, by decide, rfl⟩ rfl (k' := 8) rfl hL1 (okX12_begins (5, .getfield 140, 3) (List.mem_of_getElem? (i := 3) rfl)) ?_
    refine lv_goto (tgt := 17) hx hb (okX12_begins (8, .goto 9, 3) (List.mem_of_getElem? (i := 4) rfl)) (by decide) ?_
    exact hJ_17 p1 p2 p3 p4 (I 158 8) I hr_p1 hr_p2 hr_p3 hr_p4 hr3 hM H locs ls hw (lv_sub hl [0, 1, 2, 3, 4] rfl)
def rmX12_gone : Room := { frames := 0, cells := 0, slots := 0, locals := 0 }
set_option maxHeartbeats 4000000 in
set_option maxRecDepth 100000 in
theorem c_Mo_gone (l : Launch) (G : sk_G) {p1 p2 p3 : Int} (hr_p1 : rI p1) (hr_p2 : rI p2) (hr_p3 : rI p3) {Q : Int → sk_S → Prop} {I : sk_S} (hM : M_Mo_gone p1 p2 p3 Q I) : Met l yX12_gone wsX12_gone rmX12_gone (va_Pc [.ref (sk_ad G 158), .int (iI p1), .int (iI p2), .int (iI p3)] (sk_U G 198 sk_t I)) (sk_Qi G 198 sk_t Q) 0 0 (sk_A G) := by
  refine Met.ofW (cc := cX12_gone) (maxL := 4) (ret := (some .int)) (by decide) rfl ?_
  intro p e s m args below meth c s₁ B hml hv
  obtain ⟨rfl, hU, hK⟩ := hv
  have hx := B.exec
  have hb := B.bytes
  have hr0 := B.returns
  have hts := atoms_spec (ws := wsX12_gone) B.pre
  have hown : s.vm.findClass RX12 = some m.cls := findClass_of_methodNamed B.named
  have hlocks := B.notSynchronized
  have S : CallFix p m c cX12_gone 4 s ([.ref (sk_ad G 158), .int (iI p1), .int (iI p2), .int (iI p3)].toArray) wsX12_gone RX12 := ⟨hx, hb, hml, hown, hts⟩
  have hL0 := hts (.fieldLink RX12 59 "SkyLightsModel" "wait" "[I") (by decide +kernel)
  have hI12 : ∀ w ∈ u_ws RX12 TX12 53, w ∈ wsX12_gone := by decide +kernel
  have hw : sk_W G 198 sk_t I s s.heap [] := ⟨hU, va_S.rf⟩
  have hl := lv_entry ([.ref (sk_ad G 158), .int (iI p1), .int (iI p2), .int (iI p3)]) (n := 4) (Nat.le_of_ble_eq_true rfl)
  rw [lg_entry_eq]
  generalize (lg_sl ([.ref (sk_ad G 158), .int (iI p1), .int (iI p2), .int (iI p3)]) ++ List.replicate (4 - (lg_sl ([.ref (sk_ad G 158), .int (iI p1), .int (iI p2), .int (iI p3)])).length) Slot.unset).toArray = ls at hl ⊢
  have hl : lv_has ls 4 [(0, .ref (sk_ad G 158)), (1, .int (iI p1)), (2, .int (iI p2)), (3, .int (iI p3))] := hl
  suffices hgo : ∀ (H : Heap) (locs : List Loc), sk_W G 198 sk_t I s H locs → W p l e (headSpec wsX12_gone rmX12_gone).room s m ([.ref (sk_ad G 158), .int (iI p1), .int (iI p2), .int (iI p3)].toArray) below meth c H locs 0 0 (MQ below (sk_Qi G 198 sk_t Q) ([.ref (sk_ad G 158), .int (iI p1), .int (iI p2), .int (iI p3)].toArray) s 0 0 (sk_A G)) (F0 m 0 ls []) from hgo _ _ hw
  unfold M_Mo_gone at hM
  intro H locs hw
  refine lv_iload_n hx hb (okX12_gone (0, .iload_n 2, 1) (List.mem_of_getElem? (i := 0) rfl)) rfl (lv_at hl 2 rfl) ?_
  refine lv_aload_n hx hb (okX12_gone (1, .aload_n 0, 1) (List.mem_of_getElem? (i := 1) rfl)) rfl (lv_at hl 0 rfl) ?_
  refine sk_getr (b := 174) S hK hw kdn_158 (kd_in kdn_158) (C := RX12) (T := TX12) (N := 53) rfl hI12 24 ⟨by decide, rfl, by decide, rfl⟩ rfl (k' := 24) rfl rfl (by decide +kernel) hL0 (okX12_gone (2, .getfield 59, 3) (List.mem_of_getElem? (i := 2) rfl)) ?_
  refine lv_iload_n hx hb (okX12_gone (5, .iload_n 1, 1) (List.mem_of_getElem? (i := 3) rfl)) rfl (lv_at hl 1 rfl) ?_
  obtain ⟨hi1, hM⟩ := hM
  have hr2 := hw.1.2.2 174 p1
  refine sk_ild S hK hw kdn_174 (kd_in kdn_174) (by rw [lnn_174]; exact hi1) (okX12_gone (6, .iaload, 1) (List.mem_of_getElem? (i := 4) rfl)) ?_
  refine sk_icmp_ge (tgt := 14) hx hb hr_p2 hr2 (okX12_gone (7, .if_icmp .ge 7, 3) (List.mem_of_getElem? (i := 5) rfl)) (by decide) (fun c7 => ?_) (fun c7 => ?_)
  · have hM := hM.1 c7
    refine lv_iload_n hx hb (okX12_gone (14, .iload_n 2, 1) (List.mem_of_getElem? (i := 8) rfl)) rfl (lv_at hl 2 rfl) ?_
    refine lv_aload_n hx hb (okX12_gone (15, .aload_n 0, 1) (List.mem_of_getElem? (i := 9) rfl)) rfl (lv_at hl 0 rfl) ?_
    refine sk_getr (b := 174) S hK hw kdn_158 (kd_in kdn_158) (C := RX12) (T := TX12) (N := 53) rfl hI12 24 ⟨by decide, rfl, by decide, rfl⟩ rfl (k' := 24) rfl rfl (by decide +kernel) hL0 (okX12_gone (16, .getfield 59, 3) (List.mem_of_getElem? (i := 10) rfl)) ?_
    refine lv_iload_n hx hb (okX12_gone (19, .iload_n 1, 1) (List.mem_of_getElem? (i := 11) rfl)) rfl (lv_at hl 1 rfl) ?_
    obtain ⟨hi3, hM⟩ := hM
    have hr4 := hw.1.2.2 174 p1
    refine sk_ild S hK hw kdn_174 (kd_in kdn_174) (by rw [lnn_174]; exact hi3) (okX12_gone (20, .iaload, 1) (List.mem_of_getElem? (i := 12) rfl)) ?_
    refine lv_iload_n hx hb (okX12_gone (21, .iload_n 3, 1) (List.mem_of_getElem? (i := 13) rfl)) rfl (lv_at hl 3 rfl) ?_
    refine sk_iadd hx hb (okX12_gone (22, .iadd, 1) (List.mem_of_getElem? (i := 14) rfl)) ?_
    obtain ⟨hr5, hM⟩ := hM
    refine sk_icmp_le (tgt := 30) hx hb hr_p2 hr5 (okX12_gone (23, .if_icmp .le 7, 3) (List.mem_of_getElem? (i := 15) rfl)) (by decide) (fun c23 => ?_) (fun c23 => ?_)
    · have hM := hM.1 c23
      refine lv_iload_n hx hb (okX12_gone (30, .iload_n 2, 1) (List.mem_of_getElem? (i := 18) rfl)) rfl (lv_at hl 2 rfl) ?_
      refine lv_aload_n hx hb (okX12_gone (31, .aload_n 0, 1) (List.mem_of_getElem? (i := 19) rfl)) rfl (lv_at hl 0 rfl) ?_
      refine sk_getr (b := 174) S hK hw kdn_158 (kd_in kdn_158) (C := RX12) (T := TX12) (N := 53) rfl hI12 24 ⟨by decide, rfl, by decide, rfl⟩ rfl (k' := 24) rfl rfl (by decide +kernel) hL0 (okX12_gone (32, .getfield 59, 3) (List.mem_of_getElem? (i := 20) rfl)) ?_
      refine lv_iload_n hx hb (okX12_gone (35, .iload_n 1, 1) (List.mem_of_getElem? (i := 21) rfl)) rfl (lv_at hl 1 rfl) ?_
      obtain ⟨hi6, hM⟩ := hM
      have hr7 := hw.1.2.2 174 p1
      refine sk_ild S hK hw kdn_174 (kd_in kdn_174) (by rw [lnn_174]; exact hi6) (okX12_gone (36, .iaload, 1) (List.mem_of_getElem? (i := 22) rfl)) ?_
      refine sk_isub hx hb (okX12_gone (37, .isub, 1) (List.mem_of_getElem? (i := 23) rfl)) ?_
      obtain ⟨hr8, hM⟩ := hM
      exact sk_iret hx hb hr0 hlocks hK hw hr8 hM (okX12_gone (38, .ireturn, 1) (List.mem_of_getElem? (i := 24) rfl))
    · have hM := hM.2 c23
      refine lv_iload_n hx hb (okX12_gone (26, .iload_n 3, 1) (List.mem_of_getElem? (i := 16) rfl)) rfl (lv_at hl 3 rfl) ?_
      refine lv_goto (tgt := 38) hx hb (okX12_gone (27, .goto 11, 3) (List.mem_of_getElem? (i := 17) rfl)) (by decide) ?_
      exact sk_iret hx hb hr0 hlocks hK hw hr_p3 hM (okX12_gone (38, .ireturn, 1) (List.mem_of_getElem? (i := 24) rfl))
  · have hM := hM.2 c7
    refine lv_iconst (v := iI 0) hx hb (okX12_gone (10, .iconst 0, 1) (List.mem_of_getElem? (i := 6) rfl)) rfl ?_
    refine lv_goto (tgt := 38) hx hb (okX12_gone (11, .goto 27, 3) (List.mem_of_getElem? (i := 7) rfl)) (by decide) ?_
    exact sk_iret hx hb hr0 hlocks hK hw (by decide) hM (okX12_gone (38, .ireturn, 1) (List.mem_of_getElem? (i := 24) rfl))
def rmX12_placeX : Room := { frames := 1, cells := 0, slots := 0, locals := 55 }
set_option maxHeartbeats 4000000 in
set_option maxRecDepth 100000 in
theorem c_Mo_placeX (l : Launch) (G : sk_G) {p1 p2 p3 : Int} (hr_p1 : rI p1) (hr_p2 : rI p2) (hr_p3 : rI p3) {Q : Int → sk_S → Prop} {I : sk_S} (hM : M_Mo_placeX p1 p2 p3 Q I) : Met l yX12_placeX wsX12_placeX rmX12_placeX (va_Pc [.ref (sk_ad G 158), .int (iI p1), .int (iI p2), .int (iI p3)] (sk_U G 198 sk_t I)) (sk_Qi G 198 sk_t Q) 0 0 (sk_A G) := by
  refine Met.ofW (cc := cX12_placeX) (maxL := 4) (ret := (some .int)) (by decide) rfl ?_
  intro p e s m args below meth c s₁ B hml hv
  obtain ⟨rfl, hU, hK⟩ := hv
  have hx := B.exec
  have hb := B.bytes
  have hr0 := B.returns
  have hts := atoms_spec (ws := wsX12_placeX) B.pre
  have hown : s.vm.findClass RX12 = some m.cls := findClass_of_methodNamed B.named
  have hlocks := B.notSynchronized
  have S : CallFix p m c cX12_placeX 4 s ([.ref (sk_ad G 158), .int (iI p1), .int (iI p2), .int (iI p3)].toArray) wsX12_placeX RX12 := ⟨hx, hb, hml, hown, hts⟩
  have hL0 := hts (.fieldLink RX12 41 "SkyLightsModel" "fromX" "[I") (by decide +kernel)
  have hL1 := hts (.fieldLink RX12 50 "SkyLightsModel" "toX" "[I") (by decide +kernel)
  have hI12 : ∀ w ∈ u_ws RX12 TX12 53, w ∈ wsX12_placeX := by decide +kernel
  have hw : sk_W G 198 sk_t I s s.heap [] := ⟨hU, va_S.rf⟩
  have hl := lv_entry ([.ref (sk_ad G 158), .int (iI p1), .int (iI p2), .int (iI p3)]) (n := 4) (Nat.le_of_ble_eq_true rfl)
  rw [lg_entry_eq]
  generalize (lg_sl ([.ref (sk_ad G 158), .int (iI p1), .int (iI p2), .int (iI p3)]) ++ List.replicate (4 - (lg_sl ([.ref (sk_ad G 158), .int (iI p1), .int (iI p2), .int (iI p3)])).length) Slot.unset).toArray = ls at hl ⊢
  have hl : lv_has ls 4 [(0, .ref (sk_ad G 158)), (1, .int (iI p1)), (2, .int (iI p2)), (3, .int (iI p3))] := hl
  suffices hgo : ∀ (H : Heap) (locs : List Loc), sk_W G 198 sk_t I s H locs → W p l e (headSpec wsX12_placeX rmX12_placeX).room s m ([.ref (sk_ad G 158), .int (iI p1), .int (iI p2), .int (iI p3)].toArray) below meth c H locs 0 0 (MQ below (sk_Qi G 198 sk_t Q) ([.ref (sk_ad G 158), .int (iI p1), .int (iI p2), .int (iI p3)].toArray) s 0 0 (sk_A G)) (F0 m 0 ls []) from hgo _ _ hw
  unfold M_Mo_placeX at hM
  intro H locs hw
  refine lv_iload_n hx hb (okX12_placeX (0, .iload_n 3, 1) (List.mem_of_getElem? (i := 0) rfl)) rfl (lv_at hl 3 rfl) ?_
  refine lv_aload_n hx hb (okX12_placeX (1, .aload_n 0, 1) (List.mem_of_getElem? (i := 1) rfl)) rfl (lv_at hl 0 rfl) ?_
  refine sk_getr (b := 168) S hK hw kdn_158 (kd_in kdn_158) (C := RX12) (T := TX12) (N := 53) rfl hI12 18 ⟨by decide, rfl, by decide, rfl⟩ rfl (k' := 18) rfl rfl (by decide +kernel) hL0 (okX12_placeX (2, .getfield 41, 3) (List.mem_of_getElem? (i := 2) rfl)) ?_
  refine lv_iload_n hx hb (okX12_placeX (5, .iload_n 1, 1) (List.mem_of_getElem? (i := 3) rfl)) rfl (lv_at hl 1 rfl) ?_
  obtain ⟨hi1, hM⟩ := hM
  have hr2 := hw.1.2.2 168 p1
  refine sk_ild S hK hw kdn_168 (kd_in kdn_168) (by rw [lnn_168]; exact hi1) (okX12_placeX (6, .iaload, 1) (List.mem_of_getElem? (i := 4) rfl)) ?_
  refine sk_imul hx hb (okX12_placeX (7, .imul, 1) (List.mem_of_getElem? (i := 5) rfl)) ?_
  refine lv_aload_n hx hb (okX12_placeX (8, .aload_n 0, 1) (List.mem_of_getElem? (i := 6) rfl)) rfl (lv_at hl 0 rfl) ?_
  refine sk_getr (b := 171) S hK hw kdn_158 (kd_in kdn_158) (C := RX12) (T := TX12) (N := 53) rfl hI12 21 ⟨by decide, rfl, by decide, rfl⟩ rfl (k' := 21) rfl rfl (by decide +kernel) hL1 (okX12_placeX (9, .getfield 50, 3) (List.mem_of_getElem? (i := 7) rfl)) ?_
  refine lv_iload_n hx hb (okX12_placeX (12, .iload_n 1, 1) (List.mem_of_getElem? (i := 8) rfl)) rfl (lv_at hl 1 rfl) ?_
  obtain ⟨hi3, hM⟩ := hM
  have hr4 := hw.1.2.2 171 p1
  refine sk_ild S hK hw kdn_171 (kd_in kdn_171) (by rw [lnn_171]; exact hi3) (okX12_placeX (13, .iaload, 1) (List.mem_of_getElem? (i := 9) rfl)) ?_
  refine lv_aload_n hx hb (okX12_placeX (14, .aload_n 0, 1) (List.mem_of_getElem? (i := 10) rfl)) rfl (lv_at hl 0 rfl) ?_
  refine sk_getr (b := 168) S hK hw kdn_158 (kd_in kdn_158) (C := RX12) (T := TX12) (N := 53) rfl hI12 18 ⟨by decide, rfl, by decide, rfl⟩ rfl (k' := 18) rfl rfl (by decide +kernel) hL0 (okX12_placeX (15, .getfield 41, 3) (List.mem_of_getElem? (i := 11) rfl)) ?_
  refine lv_iload_n hx hb (okX12_placeX (18, .iload_n 1, 1) (List.mem_of_getElem? (i := 12) rfl)) rfl (lv_at hl 1 rfl) ?_
  obtain ⟨hi5, hM⟩ := hM
  have hr6 := hw.1.2.2 168 p1
  refine sk_ild S hK hw kdn_168 (kd_in kdn_168) (by rw [lnn_168]; exact hi5) (okX12_placeX (19, .iaload, 1) (List.mem_of_getElem? (i := 13) rfl)) ?_
  refine sk_isub hx hb (okX12_placeX (20, .isub, 1) (List.mem_of_getElem? (i := 14) rfl)) ?_
  refine lv_aload_n hx hb (okX12_placeX (21, .aload_n 0, 1) (List.mem_of_getElem? (i := 15) rfl)) rfl (lv_at hl 0 rfl) ?_
  refine lv_iload_n hx hb (okX12_placeX (22, .iload_n 1, 1) (List.mem_of_getElem? (i := 16) rfl)) rfl (lv_at hl 1 rfl) ?_
  refine lv_iload_n hx hb (okX12_placeX (23, .iload_n 2, 1) (List.mem_of_getElem? (i := 17) rfl)) rfl (lv_at hl 2 rfl) ?_
  refine lv_iload_n hx hb (okX12_placeX (24, .iload_n 3, 1) (List.mem_of_getElem? (i := 18) rfl)) rfl (lv_at hl 3 rfl) ?_
  refine sk_ci (sk_runV (a := 158) (C := RX12) (As := [.int (iI p1), .int (iI p2), .int (iI p3)]) (rest := [.int (iI ((I 171 p1) - (I 168 p1))), .int (iI (p3 * (I 168 p1)))]) S (c_Mo_gone l G hr_p1 hr_p2 hr_p3 hM) sk_blind gX12_placeX_X12_gone rfl hdX12_gone ⟨⟨rfl, rfl⟩, Nat.le_of_ble_eq_true rfl, Nat.le_of_ble_eq_true rfl⟩ (sk_recv hK hw kdn_158 (kd_in kdn_158) (by decide) rfl) (sk_pre hK hw) rfl hl.1 rfl (Nat.le_of_ble_eq_true rfl) (okX12_placeX (25, .invokevirtual 219, 3) (List.mem_of_getElem? (i := 19) rfl)) ⟨Nat.zero_le _, Nat.zero_le _⟩) hw (fun r_25 I_25 H locs hr_r_25 hM hw => ?_)
  refine sk_imul hx hb (okX12_placeX (28, .imul, 1) (List.mem_of_getElem? (i := 20) rfl)) ?_
  refine sk_iadd hx hb (okX12_placeX (29, .iadd, 1) (List.mem_of_getElem? (i := 21) rfl)) ?_
  obtain ⟨hr7, hM⟩ := hM
  exact sk_iret hx hb hr0 hlocks hK hw hr7 hM (okX12_placeX (30, .ireturn, 1) (List.mem_of_getElem? (i := 22) rfl))
def rmX12_placeY : Room := { frames := 1, cells := 0, slots := 0, locals := 55 }
set_option maxHeartbeats 4000000 in
set_option maxRecDepth 100000 in
theorem c_Mo_placeY (l : Launch) (G : sk_G) {p1 p2 p3 : Int} (hr_p1 : rI p1) (hr_p2 : rI p2) (hr_p3 : rI p3) {Q : Int → sk_S → Prop} {I : sk_S} (hM : M_Mo_placeY p1 p2 p3 Q I) : Met l yX12_placeY wsX12_placeY rmX12_placeY (va_Pc [.ref (sk_ad G 158), .int (iI p1), .int (iI p2), .int (iI p3)] (sk_U G 198 sk_t I)) (sk_Qi G 198 sk_t Q) 0 0 (sk_A G) := by
  refine Met.ofW (cc := cX12_placeY) (maxL := 4) (ret := (some .int)) (by decide) rfl ?_
  intro p e s m args below meth c s₁ B hml hv
  obtain ⟨rfl, hU, hK⟩ := hv
  have hx := B.exec
  have hb := B.bytes
  have hr0 := B.returns
  have hts := atoms_spec (ws := wsX12_placeY) B.pre
  have hown : s.vm.findClass RX12 = some m.cls := findClass_of_methodNamed B.named
  have hlocks := B.notSynchronized
  have S : CallFix p m c cX12_placeY 4 s ([.ref (sk_ad G 158), .int (iI p1), .int (iI p2), .int (iI p3)].toArray) wsX12_placeY RX12 := ⟨hx, hb, hml, hown, hts⟩
  have hL0 := hts (.fieldLink RX12 44 "SkyLightsModel" "fromY" "[I") (by decide +kernel)
  have hL1 := hts (.fieldLink RX12 53 "SkyLightsModel" "toY" "[I") (by decide +kernel)
  have hI12 : ∀ w ∈ u_ws RX12 TX12 53, w ∈ wsX12_placeY := by decide +kernel
  have hw : sk_W G 198 sk_t I s s.heap [] := ⟨hU, va_S.rf⟩
  have hl := lv_entry ([.ref (sk_ad G 158), .int (iI p1), .int (iI p2), .int (iI p3)]) (n := 4) (Nat.le_of_ble_eq_true rfl)
  rw [lg_entry_eq]
  generalize (lg_sl ([.ref (sk_ad G 158), .int (iI p1), .int (iI p2), .int (iI p3)]) ++ List.replicate (4 - (lg_sl ([.ref (sk_ad G 158), .int (iI p1), .int (iI p2), .int (iI p3)])).length) Slot.unset).toArray = ls at hl ⊢
  have hl : lv_has ls 4 [(0, .ref (sk_ad G 158)), (1, .int (iI p1)), (2, .int (iI p2)), (3, .int (iI p3))] := hl
  suffices hgo : ∀ (H : Heap) (locs : List Loc), sk_W G 198 sk_t I s H locs → W p l e (headSpec wsX12_placeY rmX12_placeY).room s m ([.ref (sk_ad G 158), .int (iI p1), .int (iI p2), .int (iI p3)].toArray) below meth c H locs 0 0 (MQ below (sk_Qi G 198 sk_t Q) ([.ref (sk_ad G 158), .int (iI p1), .int (iI p2), .int (iI p3)].toArray) s 0 0 (sk_A G)) (F0 m 0 ls []) from hgo _ _ hw
  unfold M_Mo_placeY at hM
  intro H locs hw
  refine lv_iload_n hx hb (okX12_placeY (0, .iload_n 3, 1) (List.mem_of_getElem? (i := 0) rfl)) rfl (lv_at hl 3 rfl) ?_
  refine lv_aload_n hx hb (okX12_placeY (1, .aload_n 0, 1) (List.mem_of_getElem? (i := 1) rfl)) rfl (lv_at hl 0 rfl) ?_
  refine sk_getr (b := 169) S hK hw kdn_158 (kd_in kdn_158) (C := RX12) (T := TX12) (N := 53) rfl hI12 19 ⟨by decide, rfl, by decide, rfl⟩ rfl (k' := 19) rfl rfl (by decide +kernel) hL0 (okX12_placeY (2, .getfield 44, 3) (List.mem_of_getElem? (i := 2) rfl)) ?_
  refine lv_iload_n hx hb (okX12_placeY (5, .iload_n 1, 1) (List.mem_of_getElem? (i := 3) rfl)) rfl (lv_at hl 1 rfl) ?_
  obtain ⟨hi1, hM⟩ := hM
  have hr2 := hw.1.2.2 169 p1
  refine sk_ild S hK hw kdn_169 (kd_in kdn_169) (by rw [lnn_169]; exact hi1) (okX12_placeY (6, .iaload, 1) (List.mem_of_getElem? (i := 4) rfl)) ?_
  refine sk_imul hx hb (okX12_placeY (7, .imul, 1) (List.mem_of_getElem? (i := 5) rfl)) ?_
  refine lv_aload_n hx hb (okX12_placeY (8, .aload_n 0, 1) (List.mem_of_getElem? (i := 6) rfl)) rfl (lv_at hl 0 rfl) ?_
  refine sk_getr (b := 172) S hK hw kdn_158 (kd_in kdn_158) (C := RX12) (T := TX12) (N := 53) rfl hI12 22 ⟨by decide, rfl, by decide, rfl⟩ rfl (k' := 22) rfl rfl (by decide +kernel) hL1 (okX12_placeY (9, .getfield 53, 3) (List.mem_of_getElem? (i := 7) rfl)) ?_
  refine lv_iload_n hx hb (okX12_placeY (12, .iload_n 1, 1) (List.mem_of_getElem? (i := 8) rfl)) rfl (lv_at hl 1 rfl) ?_
  obtain ⟨hi3, hM⟩ := hM
  have hr4 := hw.1.2.2 172 p1
  refine sk_ild S hK hw kdn_172 (kd_in kdn_172) (by rw [lnn_172]; exact hi3) (okX12_placeY (13, .iaload, 1) (List.mem_of_getElem? (i := 9) rfl)) ?_
  refine lv_aload_n hx hb (okX12_placeY (14, .aload_n 0, 1) (List.mem_of_getElem? (i := 10) rfl)) rfl (lv_at hl 0 rfl) ?_
  refine sk_getr (b := 169) S hK hw kdn_158 (kd_in kdn_158) (C := RX12) (T := TX12) (N := 53) rfl hI12 19 ⟨by decide, rfl, by decide, rfl⟩ rfl (k' := 19) rfl rfl (by decide +kernel) hL0 (okX12_placeY (15, .getfield 44, 3) (List.mem_of_getElem? (i := 11) rfl)) ?_
  refine lv_iload_n hx hb (okX12_placeY (18, .iload_n 1, 1) (List.mem_of_getElem? (i := 12) rfl)) rfl (lv_at hl 1 rfl) ?_
  obtain ⟨hi5, hM⟩ := hM
  have hr6 := hw.1.2.2 169 p1
  refine sk_ild S hK hw kdn_169 (kd_in kdn_169) (by rw [lnn_169]; exact hi5) (okX12_placeY (19, .iaload, 1) (List.mem_of_getElem? (i := 13) rfl)) ?_
  refine sk_isub hx hb (okX12_placeY (20, .isub, 1) (List.mem_of_getElem? (i := 14) rfl)) ?_
  refine lv_aload_n hx hb (okX12_placeY (21, .aload_n 0, 1) (List.mem_of_getElem? (i := 15) rfl)) rfl (lv_at hl 0 rfl) ?_
  refine lv_iload_n hx hb (okX12_placeY (22, .iload_n 1, 1) (List.mem_of_getElem? (i := 16) rfl)) rfl (lv_at hl 1 rfl) ?_
  refine lv_iload_n hx hb (okX12_placeY (23, .iload_n 2, 1) (List.mem_of_getElem? (i := 17) rfl)) rfl (lv_at hl 2 rfl) ?_
  refine lv_iload_n hx hb (okX12_placeY (24, .iload_n 3, 1) (List.mem_of_getElem? (i := 18) rfl)) rfl (lv_at hl 3 rfl) ?_
  refine sk_ci (sk_runV (a := 158) (C := RX12) (As := [.int (iI p1), .int (iI p2), .int (iI p3)]) (rest := [.int (iI ((I 172 p1) - (I 169 p1))), .int (iI (p3 * (I 169 p1)))]) S (c_Mo_gone l G hr_p1 hr_p2 hr_p3 hM) sk_blind gX12_placeY_X12_gone rfl hdX12_gone ⟨⟨rfl, rfl⟩, Nat.le_of_ble_eq_true rfl, Nat.le_of_ble_eq_true rfl⟩ (sk_recv hK hw kdn_158 (kd_in kdn_158) (by decide) rfl) (sk_pre hK hw) rfl hl.1 rfl (Nat.le_of_ble_eq_true rfl) (okX12_placeY (25, .invokevirtual 219, 3) (List.mem_of_getElem? (i := 19) rfl)) ⟨Nat.zero_le _, Nat.zero_le _⟩) hw (fun r_25 I_25 H locs hr_r_25 hM hw => ?_)
  refine sk_imul hx hb (okX12_placeY (28, .imul, 1) (List.mem_of_getElem? (i := 20) rfl)) ?_
  refine sk_iadd hx hb (okX12_placeY (29, .iadd, 1) (List.mem_of_getElem? (i := 21) rfl)) ?_
  obtain ⟨hr7, hM⟩ := hM
  exact sk_iret hx hb hr0 hlocks hK hw hr7 hM (okX12_placeY (30, .ireturn, 1) (List.mem_of_getElem? (i := 22) rfl))
def rmX12_placeZ : Room := { frames := 1, cells := 0, slots := 0, locals := 55 }
set_option maxHeartbeats 4000000 in
set_option maxRecDepth 100000 in
theorem c_Mo_placeZ (l : Launch) (G : sk_G) {p1 p2 p3 : Int} (hr_p1 : rI p1) (hr_p2 : rI p2) (hr_p3 : rI p3) {Q : Int → sk_S → Prop} {I : sk_S} (hM : M_Mo_placeZ p1 p2 p3 Q I) : Met l yX12_placeZ wsX12_placeZ rmX12_placeZ (va_Pc [.ref (sk_ad G 158), .int (iI p1), .int (iI p2), .int (iI p3)] (sk_U G 198 sk_t I)) (sk_Qi G 198 sk_t Q) 0 0 (sk_A G) := by
  refine Met.ofW (cc := cX12_placeZ) (maxL := 4) (ret := (some .int)) (by decide) rfl ?_
  intro p e s m args below meth c s₁ B hml hv
  obtain ⟨rfl, hU, hK⟩ := hv
  have hx := B.exec
  have hb := B.bytes
  have hr0 := B.returns
  have hts := atoms_spec (ws := wsX12_placeZ) B.pre
  have hown : s.vm.findClass RX12 = some m.cls := findClass_of_methodNamed B.named
  have hlocks := B.notSynchronized
  have S : CallFix p m c cX12_placeZ 4 s ([.ref (sk_ad G 158), .int (iI p1), .int (iI p2), .int (iI p3)].toArray) wsX12_placeZ RX12 := ⟨hx, hb, hml, hown, hts⟩
  have hL0 := hts (.fieldLink RX12 47 "SkyLightsModel" "fromZ" "[I") (by decide +kernel)
  have hL1 := hts (.fieldLink RX12 56 "SkyLightsModel" "toZ" "[I") (by decide +kernel)
  have hI12 : ∀ w ∈ u_ws RX12 TX12 53, w ∈ wsX12_placeZ := by decide +kernel
  have hw : sk_W G 198 sk_t I s s.heap [] := ⟨hU, va_S.rf⟩
  have hl := lv_entry ([.ref (sk_ad G 158), .int (iI p1), .int (iI p2), .int (iI p3)]) (n := 4) (Nat.le_of_ble_eq_true rfl)
  rw [lg_entry_eq]
  generalize (lg_sl ([.ref (sk_ad G 158), .int (iI p1), .int (iI p2), .int (iI p3)]) ++ List.replicate (4 - (lg_sl ([.ref (sk_ad G 158), .int (iI p1), .int (iI p2), .int (iI p3)])).length) Slot.unset).toArray = ls at hl ⊢
  have hl : lv_has ls 4 [(0, .ref (sk_ad G 158)), (1, .int (iI p1)), (2, .int (iI p2)), (3, .int (iI p3))] := hl
  suffices hgo : ∀ (H : Heap) (locs : List Loc), sk_W G 198 sk_t I s H locs → W p l e (headSpec wsX12_placeZ rmX12_placeZ).room s m ([.ref (sk_ad G 158), .int (iI p1), .int (iI p2), .int (iI p3)].toArray) below meth c H locs 0 0 (MQ below (sk_Qi G 198 sk_t Q) ([.ref (sk_ad G 158), .int (iI p1), .int (iI p2), .int (iI p3)].toArray) s 0 0 (sk_A G)) (F0 m 0 ls []) from hgo _ _ hw
  unfold M_Mo_placeZ at hM
  intro H locs hw
  refine lv_iload_n hx hb (okX12_placeZ (0, .iload_n 3, 1) (List.mem_of_getElem? (i := 0) rfl)) rfl (lv_at hl 3 rfl) ?_
  refine lv_aload_n hx hb (okX12_placeZ (1, .aload_n 0, 1) (List.mem_of_getElem? (i := 1) rfl)) rfl (lv_at hl 0 rfl) ?_
  refine sk_getr (b := 170) S hK hw kdn_158 (kd_in kdn_158) (C := RX12) (T := TX12) (N := 53) rfl hI12 20 ⟨by decide, rfl, by decide, rfl⟩ rfl (k' := 20) rfl rfl (by decide +kernel) hL0 (okX12_placeZ (2, .getfield 47, 3) (List.mem_of_getElem? (i := 2) rfl)) ?_
  refine lv_iload_n hx hb (okX12_placeZ (5, .iload_n 1, 1) (List.mem_of_getElem? (i := 3) rfl)) rfl (lv_at hl 1 rfl) ?_
  obtain ⟨hi1, hM⟩ := hM
  have hr2 := hw.1.2.2 170 p1
  refine sk_ild S hK hw kdn_170 (kd_in kdn_170) (by rw [lnn_170]; exact hi1) (okX12_placeZ (6, .iaload, 1) (List.mem_of_getElem? (i := 4) rfl)) ?_
  refine sk_imul hx hb (okX12_placeZ (7, .imul, 1) (List.mem_of_getElem? (i := 5) rfl)) ?_
  refine lv_aload_n hx hb (okX12_placeZ (8, .aload_n 0, 1) (List.mem_of_getElem? (i := 6) rfl)) rfl (lv_at hl 0 rfl) ?_
  refine sk_getr (b := 173) S hK hw kdn_158 (kd_in kdn_158) (C := RX12) (T := TX12) (N := 53) rfl hI12 23 ⟨by decide, rfl, by decide, rfl⟩ rfl (k' := 23) rfl rfl (by decide +kernel) hL1 (okX12_placeZ (9, .getfield 56, 3) (List.mem_of_getElem? (i := 7) rfl)) ?_
  refine lv_iload_n hx hb (okX12_placeZ (12, .iload_n 1, 1) (List.mem_of_getElem? (i := 8) rfl)) rfl (lv_at hl 1 rfl) ?_
  obtain ⟨hi3, hM⟩ := hM
  have hr4 := hw.1.2.2 173 p1
  refine sk_ild S hK hw kdn_173 (kd_in kdn_173) (by rw [lnn_173]; exact hi3) (okX12_placeZ (13, .iaload, 1) (List.mem_of_getElem? (i := 9) rfl)) ?_
  refine lv_aload_n hx hb (okX12_placeZ (14, .aload_n 0, 1) (List.mem_of_getElem? (i := 10) rfl)) rfl (lv_at hl 0 rfl) ?_
  refine sk_getr (b := 170) S hK hw kdn_158 (kd_in kdn_158) (C := RX12) (T := TX12) (N := 53) rfl hI12 20 ⟨by decide, rfl, by decide, rfl⟩ rfl (k' := 20) rfl rfl (by decide +kernel) hL0 (okX12_placeZ (15, .getfield 47, 3) (List.mem_of_getElem? (i := 11) rfl)) ?_
  refine lv_iload_n hx hb (okX12_placeZ (18, .iload_n 1, 1) (List.mem_of_getElem? (i := 12) rfl)) rfl (lv_at hl 1 rfl) ?_
  obtain ⟨hi5, hM⟩ := hM
  have hr6 := hw.1.2.2 170 p1
  refine sk_ild S hK hw kdn_170 (kd_in kdn_170) (by rw [lnn_170]; exact hi5) (okX12_placeZ (19, .iaload, 1) (List.mem_of_getElem? (i := 13) rfl)) ?_
  refine sk_isub hx hb (okX12_placeZ (20, .isub, 1) (List.mem_of_getElem? (i := 14) rfl)) ?_
  refine lv_aload_n hx hb (okX12_placeZ (21, .aload_n 0, 1) (List.mem_of_getElem? (i := 15) rfl)) rfl (lv_at hl 0 rfl) ?_
  refine lv_iload_n hx hb (okX12_placeZ (22, .iload_n 1, 1) (List.mem_of_getElem? (i := 16) rfl)) rfl (lv_at hl 1 rfl) ?_
  refine lv_iload_n hx hb (okX12_placeZ (23, .iload_n 2, 1) (List.mem_of_getElem? (i := 17) rfl)) rfl (lv_at hl 2 rfl) ?_
  refine lv_iload_n hx hb (okX12_placeZ (24, .iload_n 3, 1) (List.mem_of_getElem? (i := 18) rfl)) rfl (lv_at hl 3 rfl) ?_
  refine sk_ci (sk_runV (a := 158) (C := RX12) (As := [.int (iI p1), .int (iI p2), .int (iI p3)]) (rest := [.int (iI ((I 173 p1) - (I 170 p1))), .int (iI (p3 * (I 170 p1)))]) S (c_Mo_gone l G hr_p1 hr_p2 hr_p3 hM) sk_blind gX12_placeZ_X12_gone rfl hdX12_gone ⟨⟨rfl, rfl⟩, Nat.le_of_ble_eq_true rfl, Nat.le_of_ble_eq_true rfl⟩ (sk_recv hK hw kdn_158 (kd_in kdn_158) (by decide) rfl) (sk_pre hK hw) rfl hl.1 rfl (Nat.le_of_ble_eq_true rfl) (okX12_placeZ (25, .invokevirtual 219, 3) (List.mem_of_getElem? (i := 19) rfl)) ⟨Nat.zero_le _, Nat.zero_le _⟩) hw (fun r_25 I_25 H locs hr_r_25 hM hw => ?_)
  refine sk_imul hx hb (okX12_placeZ (28, .imul, 1) (List.mem_of_getElem? (i := 20) rfl)) ?_
  refine sk_iadd hx hb (okX12_placeZ (29, .iadd, 1) (List.mem_of_getElem? (i := 21) rfl)) ?_
  obtain ⟨hr7, hM⟩ := hM
  exact sk_iret hx hb hr0 hlocks hK hw hr7 hM (okX12_placeZ (30, .ireturn, 1) (List.mem_of_getElem? (i := 22) rfl))
def rmX12_clash : Room := { frames := 2, cells := 0, slots := 0, locals := 110 }
set_option maxHeartbeats 4000000 in
set_option maxRecDepth 100000 in
theorem c_Mo_clash (l : Launch) (G : sk_G) {p1 p2 p3 : Int} (hr_p1 : rI p1) (hr_p2 : rI p2) (hr_p3 : rI p3) {Q : Int → sk_S → Prop} {I : sk_S} (hM : M_Mo_clash p1 p2 p3 Q I) : Met l yX12_clash wsX12_clash rmX12_clash (va_Pc [.ref (sk_ad G 158), .int (iI p1), .int (iI p2), .int (iI p3)] (sk_U G 198 sk_t I)) (sk_Qz G 198 sk_t Q) 0 0 (sk_A G) := by
  refine Met.ofW (cc := cX12_clash) (maxL := 11) (ret := (some .boolean)) (by decide) rfl ?_
  intro p e s m args below meth c s₁ B hml hv
  obtain ⟨rfl, hU, hK⟩ := hv
  have hx := B.exec
  have hb := B.bytes
  have hr0 := B.returns
  have hts := atoms_spec (ws := wsX12_clash) B.pre
  have hown : s.vm.findClass RX12 = some m.cls := findClass_of_methodNamed B.named
  have hlocks := B.notSynchronized
  have S : CallFix p m c cX12_clash 11 s ([.ref (sk_ad G 158), .int (iI p1), .int (iI p2), .int (iI p3)].toArray) wsX12_clash RX12 := ⟨hx, hb, hml, hown, hts⟩
  have hL0 := hts (.fieldLink RX12 34 "SkyLightsModel" "gap" "I") (by decide +kernel)
  have hI12 : ∀ w ∈ u_ws RX12 TX12 53, w ∈ wsX12_clash := by decide +kernel
  have hw : sk_W G 198 sk_t I s s.heap [] := ⟨hU, va_S.rf⟩
  have hl := lv_entry ([.ref (sk_ad G 158), .int (iI p1), .int (iI p2), .int (iI p3)]) (n := 11) (Nat.le_of_ble_eq_true rfl)
  rw [lg_entry_eq]
  generalize (lg_sl ([.ref (sk_ad G 158), .int (iI p1), .int (iI p2), .int (iI p3)]) ++ List.replicate (11 - (lg_sl ([.ref (sk_ad G 158), .int (iI p1), .int (iI p2), .int (iI p3)])).length) Slot.unset).toArray = ls at hl ⊢
  have hl : lv_has ls 11 [(0, .ref (sk_ad G 158)), (1, .int (iI p1)), (2, .int (iI p2)), (3, .int (iI p3))] := hl
  suffices hgo : ∀ (H : Heap) (locs : List Loc), sk_W G 198 sk_t I s H locs → W p l e (headSpec wsX12_clash rmX12_clash).room s m ([.ref (sk_ad G 158), .int (iI p1), .int (iI p2), .int (iI p3)].toArray) below meth c H locs 0 0 (MQ below (sk_Qz G 198 sk_t Q) ([.ref (sk_ad G 158), .int (iI p1), .int (iI p2), .int (iI p3)].toArray) s 0 0 (sk_A G)) (F0 m 0 ls []) from hgo _ _ hw
  have hJ_3 : ∀ (v1 v2 v3 v4 : Int) (I : sk_S), rI v1 → rI v2 → rI v3 → rI v4 → L_Mo_clash_3 v1 v2 v3 Q v4 I → ∀ (H : Heap) (locs : List Loc) (ls : Array Slot), sk_W G 198 sk_t I s H locs → lv_has ls 11 [(0, .ref (sk_ad G 158)), (1, .int (iI v1)), (2, .int (iI v2)), (3, .int (iI v3)), (4, .int (iI v4))] → W p l e (headSpec wsX12_clash rmX12_clash).room s m ([.ref (sk_ad G 158), .int (iI p1), .int (iI p2), .int (iI p3)].toArray) below meth c H locs 0 0 (MQ below (sk_Qz G 198 sk_t Q) ([.ref (sk_ad G 158), .int (iI p1), .int (iI p2), .int (iI p3)].toArray) s 0 0 (sk_A G)) (F0 m 3 ls []) := by
    intro v1 v2 v3 v4 I hr_v1 hr_v2 hr_v3 hr_v4 hM H locs ls hw hl
    unfold L_Mo_clash_3 at hM
    obtain ⟨X_3, hX_3⟩ : ∃ X : Int → sk_S → Prop, ∀ (v4 : Int) (I : sk_S), X v4 I ↔ (rI v4 → ∀ (H : Heap) (locs : List Loc) (ls : Array Slot), sk_W G 198 sk_t I s H locs → lv_has ls 11 [(0, .ref (sk_ad G 158)), (1, .int (iI v1)), (2, .int (iI v2)), (3, .int (iI v3)), (4, .int (iI v4))] → W p l e (headSpec wsX12_clash rmX12_clash).room s m ([.ref (sk_ad G 158), .int (iI p1), .int (iI p2), .int (iI p3)].toArray) below meth c H locs 0 0 (MQ below (sk_Qz G 198 sk_t Q) ([.ref (sk_ad G 158), .int (iI p1), .int (iI p2), .int (iI p3)].toArray) s 0 0 (sk_A G)) (F0 m 3 ls [])) := ⟨_, fun _ _ => Iff.rfl⟩
    refine (hX_3 v4 I).1 (hM X_3 (fun v4 I hM => (hX_3 v4 I).2 (fun hr_v4 H locs ls hw hl => ?_))) hr_v4 H locs ls hw hl
    refine lv_iload hx hb (okX12_clash (3, .iload 4, 2) (List.mem_of_getElem? (i := 2) rfl)) (lv_at hl 4 rfl) ?_
    refine lv_iload_n hx hb (okX12_clash (5, .iload_n 3, 1) (List.mem_of_getElem? (i := 3) rfl)) rfl (lv_at hl 3 rfl) ?_
    refine lv_bipush (v := iI 9) hx hb (okX12_clash (6, .bipush 9, 2) (List.mem_of_getElem? (i := 4) rfl)) (by decide +kernel) ?_
    refine sk_iadd hx hb (okX12_clash (8, .iadd, 1) (List.mem_of_getElem? (i := 5) rfl)) ?_
    obtain ⟨hr1, hM⟩ := hM
    refine sk_icmp_ge (tgt := 188) hx hb hr_v4 hr1 (okX12_clash (9, .if_icmp .ge 179, 3) (List.mem_of_getElem? (i := 6) rfl)) (by decide) (fun c9 => ?_) (fun c9 => ?_)
    · have hM := hM.1 c9
      refine lv_iconst (v := iI 0) hx hb (okX12_clash (188, .iconst 0, 1) (List.mem_of_getElem? (i := 122) rfl)) rfl ?_
      exact sk_zret hx hb hr0 hlocks hK hw (Or.inl rfl) hM (okX12_clash (189, .ireturn, 1) (List.mem_of_getElem? (i := 123) rfl))
    · have hM := hM.2 c9
      refine lv_aload_n hx hb (okX12_clash (12, .aload_n 0, 1) (List.mem_of_getElem? (i := 7) rfl)) rfl (lv_at hl 0 rfl) ?_
      refine lv_iload_n hx hb (okX12_clash (13, .iload_n 1, 1) (List.mem_of_getElem? (i := 8) rfl)) rfl (lv_at hl 1 rfl) ?_
      refine lv_iload hx hb (okX12_clash (14, .iload 4, 2) (List.mem_of_getElem? (i := 9) rfl)) (lv_at hl 4 rfl) ?_
      refine lv_iload_n hx hb (okX12_clash (16, .iload_n 3, 1) (List.mem_of_getElem? (i := 10) rfl)) rfl (lv_at hl 3 rfl) ?_
      refine sk_ci (sk_runV (a := 158) (C := RX12) (As := [.int (iI v1), .int (iI v4), .int (iI v3)]) (rest := []) S (c_Mo_placeX l G hr_v1 hr_v4 hr_v3 hM) sk_blind gX12_clash_X12_placeX rfl hdX12_placeX ⟨⟨rfl, rfl⟩, Nat.le_of_ble_eq_true rfl, Nat.le_of_ble_eq_true rfl⟩ (sk_recv hK hw kdn_158 (kd_in kdn_158) (by decide) rfl) (sk_pre hK hw) rfl hl.1 rfl (Nat.le_of_ble_eq_true rfl) (okX12_clash (17, .invokevirtual 223, 3) (List.mem_of_getElem? (i := 11) rfl)) ⟨Nat.zero_le _, Nat.zero_le _⟩) hw (fun r_17 I_17 H locs hr_r_17 hM hw => ?_)
      refine lv_aload_n hx hb (okX12_clash (20, .aload_n 0, 1) (List.mem_of_getElem? (i := 12) rfl)) rfl (lv_at hl 0 rfl) ?_
      refine lv_iload_n hx hb (okX12_clash (21, .iload_n 2, 1) (List.mem_of_getElem? (i := 13) rfl)) rfl (lv_at hl 2 rfl) ?_
      refine lv_iload hx hb (okX12_clash (22, .iload 4, 2) (List.mem_of_getElem? (i := 14) rfl)) (lv_at hl 4 rfl) ?_
      refine lv_iload_n hx hb (okX12_clash (24, .iload_n 3, 1) (List.mem_of_getElem? (i := 15) rfl)) rfl (lv_at hl 3 rfl) ?_
      refine sk_ci (sk_runV (a := 158) (C := RX12) (As := [.int (iI v2), .int (iI v4), .int (iI v3)]) (rest := [.int (iI r_17)]) S (c_Mo_placeX l G hr_v2 hr_v4 hr_v3 hM) sk_blind gX12_clash_X12_placeX rfl hdX12_placeX ⟨⟨rfl, rfl⟩, Nat.le_of_ble_eq_true rfl, Nat.le_of_ble_eq_true rfl⟩ (sk_recv hK hw kdn_158 (kd_in kdn_158) (by decide) rfl) (sk_pre hK hw) rfl hl.1 rfl (Nat.le_of_ble_eq_true rfl) (okX12_clash (25, .invokevirtual 223, 3) (List.mem_of_getElem? (i := 16) rfl)) ⟨Nat.zero_le _, Nat.zero_le _⟩) hw (fun r_25 I_25 H locs hr_r_25 hM hw => ?_)
      refine sk_isub hx hb (okX12_clash (28, .isub, 1) (List.mem_of_getElem? (i := 17) rfl)) ?_
      obtain ⟨hr2, hM⟩ := hM
      refine sk_nm (fun v5_29 ev5_29 => ?_)
      have hM := hM v5_29 ev5_29
      have hr_v5_29 : rI v5_29 := by rw [ev5_29]; exact hr2
      refine lv_istore (lv' := [(5, .int (iI v5_29)), (0, .ref (sk_ad G 158)), (1, .int (iI v1)), (2, .int (iI v2)), (3, .int (iI v3)), (4, .int (iI v4))]) hx hb (okX12_clash (29, .istore 5, 2) (List.mem_of_getElem? (i := 18) rfl)) hl (by decide) rfl (fun ls hl => ?_)
      refine lv_aload_n hx hb (okX12_clash (31, .aload_n 0, 1) (List.mem_of_getElem? (i := 19) rfl)) rfl (lv_at hl 1 rfl) ?_
      refine lv_iload_n hx hb (okX12_clash (32, .iload_n 1, 1) (List.mem_of_getElem? (i := 20) rfl)) rfl (lv_at hl 2 rfl) ?_
      refine lv_iload hx hb (okX12_clash (33, .iload 4, 2) (List.mem_of_getElem? (i := 21) rfl)) (lv_at hl 5 rfl) ?_
      refine lv_iload_n hx hb (okX12_clash (35, .iload_n 3, 1) (List.mem_of_getElem? (i := 22) rfl)) rfl (lv_at hl 4 rfl) ?_
      refine sk_ci (sk_runV (a := 158) (C := RX12) (As := [.int (iI v1), .int (iI v4), .int (iI v3)]) (rest := []) S (c_Mo_placeY l G hr_v1 hr_v4 hr_v3 hM) sk_blind gX12_clash_X12_placeY rfl hdX12_placeY ⟨⟨rfl, rfl⟩, Nat.le_of_ble_eq_true rfl, Nat.le_of_ble_eq_true rfl⟩ (sk_recv hK hw kdn_158 (kd_in kdn_158) (by decide) rfl) (sk_pre hK hw) rfl hl.1 rfl (Nat.le_of_ble_eq_true rfl) (okX12_clash (36, .invokevirtual 226, 3) (List.mem_of_getElem? (i := 23) rfl)) ⟨Nat.zero_le _, Nat.zero_le _⟩) hw (fun r_36 I_36 H locs hr_r_36 hM hw => ?_)
      refine lv_aload_n hx hb (okX12_clash (39, .aload_n 0, 1) (List.mem_of_getElem? (i := 24) rfl)) rfl (lv_at hl 1 rfl) ?_
      refine lv_iload_n hx hb (okX12_clash (40, .iload_n 2, 1) (List.mem_of_getElem? (i := 25) rfl)) rfl (lv_at hl 3 rfl) ?_
      refine lv_iload hx hb (okX12_clash (41, .iload 4, 2) (List.mem_of_getElem? (i := 26) rfl)) (lv_at hl 5 rfl) ?_
      refine lv_iload_n hx hb (okX12_clash (43, .iload_n 3, 1) (List.mem_of_getElem? (i := 27) rfl)) rfl (lv_at hl 4 rfl) ?_
      refine sk_ci (sk_runV (a := 158) (C := RX12) (As := [.int (iI v2), .int (iI v4), .int (iI v3)]) (rest := [.int (iI r_36)]) S (c_Mo_placeY l G hr_v2 hr_v4 hr_v3 hM) sk_blind gX12_clash_X12_placeY rfl hdX12_placeY ⟨⟨rfl, rfl⟩, Nat.le_of_ble_eq_true rfl, Nat.le_of_ble_eq_true rfl⟩ (sk_recv hK hw kdn_158 (kd_in kdn_158) (by decide) rfl) (sk_pre hK hw) rfl hl.1 rfl (Nat.le_of_ble_eq_true rfl) (okX12_clash (44, .invokevirtual 226, 3) (List.mem_of_getElem? (i := 28) rfl)) ⟨Nat.zero_le _, Nat.zero_le _⟩) hw (fun r_44 I_44 H locs hr_r_44 hM hw => ?_)
      refine sk_isub hx hb (okX12_clash (47, .isub, 1) (List.mem_of_getElem? (i := 29) rfl)) ?_
      obtain ⟨hr3, hM⟩ := hM
      refine sk_nm (fun v6_48 ev6_48 => ?_)
      have hM := hM v6_48 ev6_48
      have hr_v6_48 : rI v6_48 := by rw [ev6_48]; exact hr3
      refine lv_istore (lv' := [(6, .int (iI v6_48)), (5, .int (iI v5_29)), (0, .ref (sk_ad G 158)), (1, .int (iI v1)), (2, .int (iI v2)), (3, .int (iI v3)), (4, .int (iI v4))]) hx hb (okX12_clash (48, .istore 6, 2) (List.mem_of_getElem? (i := 30) rfl)) hl (by decide) rfl (fun ls hl => ?_)
      refine lv_aload_n hx hb (okX12_clash (50, .aload_n 0, 1) (List.mem_of_getElem? (i := 31) rfl)) rfl (lv_at hl 2 rfl) ?_
      refine lv_iload_n hx hb (okX12_clash (51, .iload_n 1, 1) (List.mem_of_getElem? (i := 32) rfl)) rfl (lv_at hl 3 rfl) ?_
      refine lv_iload hx hb (okX12_clash (52, .iload 4, 2) (List.mem_of_getElem? (i := 33) rfl)) (lv_at hl 6 rfl) ?_
      refine lv_iload_n hx hb (okX12_clash (54, .iload_n 3, 1) (List.mem_of_getElem? (i := 34) rfl)) rfl (lv_at hl 5 rfl) ?_
      refine sk_ci (sk_runV (a := 158) (C := RX12) (As := [.int (iI v1), .int (iI v4), .int (iI v3)]) (rest := []) S (c_Mo_placeZ l G hr_v1 hr_v4 hr_v3 hM) sk_blind gX12_clash_X12_placeZ rfl hdX12_placeZ ⟨⟨rfl, rfl⟩, Nat.le_of_ble_eq_true rfl, Nat.le_of_ble_eq_true rfl⟩ (sk_recv hK hw kdn_158 (kd_in kdn_158) (by decide) rfl) (sk_pre hK hw) rfl hl.1 rfl (Nat.le_of_ble_eq_true rfl) (okX12_clash (55, .invokevirtual 229, 3) (List.mem_of_getElem? (i := 35) rfl)) ⟨Nat.zero_le _, Nat.zero_le _⟩) hw (fun r_55 I_55 H locs hr_r_55 hM hw => ?_)
      refine lv_aload_n hx hb (okX12_clash (58, .aload_n 0, 1) (List.mem_of_getElem? (i := 36) rfl)) rfl (lv_at hl 2 rfl) ?_
      refine lv_iload_n hx hb (okX12_clash (59, .iload_n 2, 1) (List.mem_of_getElem? (i := 37) rfl)) rfl (lv_at hl 4 rfl) ?_
      refine lv_iload hx hb (okX12_clash (60, .iload 4, 2) (List.mem_of_getElem? (i := 38) rfl)) (lv_at hl 6 rfl) ?_
      refine lv_iload_n hx hb (okX12_clash (62, .iload_n 3, 1) (List.mem_of_getElem? (i := 39) rfl)) rfl (lv_at hl 5 rfl) ?_
      refine sk_ci (sk_runV (a := 158) (C := RX12) (As := [.int (iI v2), .int (iI v4), .int (iI v3)]) (rest := [.int (iI r_55)]) S (c_Mo_placeZ l G hr_v2 hr_v4 hr_v3 hM) sk_blind gX12_clash_X12_placeZ rfl hdX12_placeZ ⟨⟨rfl, rfl⟩, Nat.le_of_ble_eq_true rfl, Nat.le_of_ble_eq_true rfl⟩ (sk_recv hK hw kdn_158 (kd_in kdn_158) (by decide) rfl) (sk_pre hK hw) rfl hl.1 rfl (Nat.le_of_ble_eq_true rfl) (okX12_clash (63, .invokevirtual 229, 3) (List.mem_of_getElem? (i := 40) rfl)) ⟨Nat.zero_le _, Nat.zero_le _⟩) hw (fun r_63 I_63 H locs hr_r_63 hM hw => ?_)
      refine sk_isub hx hb (okX12_clash (66, .isub, 1) (List.mem_of_getElem? (i := 41) rfl)) ?_
      obtain ⟨hr4, hM⟩ := hM
      refine sk_nm (fun v7_67 ev7_67 => ?_)
      have hM := hM v7_67 ev7_67
      have hr_v7_67 : rI v7_67 := by rw [ev7_67]; exact hr4
      refine lv_istore (lv' := [(7, .int (iI v7_67)), (6, .int (iI v6_48)), (5, .int (iI v5_29)), (0, .ref (sk_ad G 158)), (1, .int (iI v1)), (2, .int (iI v2)), (3, .int (iI v3)), (4, .int (iI v4))]) hx hb (okX12_clash (67, .istore 7, 2) (List.mem_of_getElem? (i := 42) rfl)) hl (by decide) rfl (fun ls hl => ?_)
      refine lv_aload_n hx hb (okX12_clash (69, .aload_n 0, 1) (List.mem_of_getElem? (i := 43) rfl)) rfl (lv_at hl 3 rfl) ?_
      refine lv_iload_n hx hb (okX12_clash (70, .iload_n 1, 1) (List.mem_of_getElem? (i := 44) rfl)) rfl (lv_at hl 4 rfl) ?_
      refine lv_iload hx hb (okX12_clash (71, .iload 4, 2) (List.mem_of_getElem? (i := 45) rfl)) (lv_at hl 7 rfl) ?_
      refine lv_iconst (v := iI 1) hx hb (okX12_clash (73, .iconst 1, 1) (List.mem_of_getElem? (i := 46) rfl)) rfl ?_
      refine sk_iadd hx hb (okX12_clash (74, .iadd, 1) (List.mem_of_getElem? (i := 47) rfl)) ?_
      refine lv_iload_n hx hb (okX12_clash (75, .iload_n 3, 1) (List.mem_of_getElem? (i := 48) rfl)) rfl (lv_at hl 6 rfl) ?_
      obtain ⟨hr5, hM⟩ := hM
      refine sk_ci (sk_runV (a := 158) (C := RX12) (As := [.int (iI v1), .int (iI (v4 + 1)), .int (iI v3)]) (rest := []) S (c_Mo_placeX l G hr_v1 hr5 hr_v3 hM) sk_blind gX12_clash_X12_placeX rfl hdX12_placeX ⟨⟨rfl, rfl⟩, Nat.le_of_ble_eq_true rfl, Nat.le_of_ble_eq_true rfl⟩ (sk_recv hK hw kdn_158 (kd_in kdn_158) (by decide) rfl) (sk_pre hK hw) rfl hl.1 rfl (Nat.le_of_ble_eq_true rfl) (okX12_clash (76, .invokevirtual 223, 3) (List.mem_of_getElem? (i := 49) rfl)) ⟨Nat.zero_le _, Nat.zero_le _⟩) hw (fun r_76 I_76 H locs hr_r_76 hM hw => ?_)
      refine lv_aload_n hx hb (okX12_clash (79, .aload_n 0, 1) (List.mem_of_getElem? (i := 50) rfl)) rfl (lv_at hl 3 rfl) ?_
      refine lv_iload_n hx hb (okX12_clash (80, .iload_n 2, 1) (List.mem_of_getElem? (i := 51) rfl)) rfl (lv_at hl 5 rfl) ?_
      refine lv_iload hx hb (okX12_clash (81, .iload 4, 2) (List.mem_of_getElem? (i := 52) rfl)) (lv_at hl 7 rfl) ?_
      refine lv_iconst (v := iI 1) hx hb (okX12_clash (83, .iconst 1, 1) (List.mem_of_getElem? (i := 53) rfl)) rfl ?_
      refine sk_iadd hx hb (okX12_clash (84, .iadd, 1) (List.mem_of_getElem? (i := 54) rfl)) ?_
      refine lv_iload_n hx hb (okX12_clash (85, .iload_n 3, 1) (List.mem_of_getElem? (i := 55) rfl)) rfl (lv_at hl 6 rfl) ?_
      refine sk_ci (sk_runV (a := 158) (C := RX12) (As := [.int (iI v2), .int (iI (v4 + 1)), .int (iI v3)]) (rest := [.int (iI r_76)]) S (c_Mo_placeX l G hr_v2 hr5 hr_v3 hM) sk_blind gX12_clash_X12_placeX rfl hdX12_placeX ⟨⟨rfl, rfl⟩, Nat.le_of_ble_eq_true rfl, Nat.le_of_ble_eq_true rfl⟩ (sk_recv hK hw kdn_158 (kd_in kdn_158) (by decide) rfl) (sk_pre hK hw) rfl hl.1 rfl (Nat.le_of_ble_eq_true rfl) (okX12_clash (86, .invokevirtual 223, 3) (List.mem_of_getElem? (i := 56) rfl)) ⟨Nat.zero_le _, Nat.zero_le _⟩) hw (fun r_86 I_86 H locs hr_r_86 hM hw => ?_)
      refine sk_isub hx hb (okX12_clash (89, .isub, 1) (List.mem_of_getElem? (i := 57) rfl)) ?_
      refine lv_iload hx hb (okX12_clash (90, .iload 5, 2) (List.mem_of_getElem? (i := 58) rfl)) (lv_at hl 2 rfl) ?_
      refine sk_isub hx hb (okX12_clash (92, .isub, 1) (List.mem_of_getElem? (i := 59) rfl)) ?_
      obtain ⟨hr6, hM⟩ := hM
      refine sk_nm (fun v8_93 ev8_93 => ?_)
      have hM := hM v8_93 ev8_93
      have hr_v8_93 : rI v8_93 := by rw [ev8_93]; exact hr6
      refine lv_istore (lv' := [(8, .int (iI v8_93)), (7, .int (iI v7_67)), (6, .int (iI v6_48)), (5, .int (iI v5_29)), (0, .ref (sk_ad G 158)), (1, .int (iI v1)), (2, .int (iI v2)), (3, .int (iI v3)), (4, .int (iI v4))]) hx hb (okX12_clash (93, .istore 8, 2) (List.mem_of_getElem? (i := 60) rfl)) hl (by decide) rfl (fun ls hl => ?_)
      refine lv_aload_n hx hb (okX12_clash (95, .aload_n 0, 1) (List.mem_of_getElem? (i := 61) rfl)) rfl (lv_at hl 4 rfl) ?_
      refine lv_iload_n hx hb (okX12_clash (96, .iload_n 1, 1) (List.mem_of_getElem? (i := 62) rfl)) rfl (lv_at hl 5 rfl) ?_
      refine lv_iload hx hb (okX12_clash (97, .iload 4, 2) (List.mem_of_getElem? (i := 63) rfl)) (lv_at hl 8 rfl) ?_
      refine lv_iconst (v := iI 1) hx hb (okX12_clash (99, .iconst 1, 1) (List.mem_of_getElem? (i := 64) rfl)) rfl ?_
      refine sk_iadd hx hb (okX12_clash (100, .iadd, 1) (List.mem_of_getElem? (i := 65) rfl)) ?_
      refine lv_iload_n hx hb (okX12_clash (101, .iload_n 3, 1) (List.mem_of_getElem? (i := 66) rfl)) rfl (lv_at hl 7 rfl) ?_
      refine sk_ci (sk_runV (a := 158) (C := RX12) (As := [.int (iI v1), .int (iI (v4 + 1)), .int (iI v3)]) (rest := []) S (c_Mo_placeY l G hr_v1 hr5 hr_v3 hM) sk_blind gX12_clash_X12_placeY rfl hdX12_placeY ⟨⟨rfl, rfl⟩, Nat.le_of_ble_eq_true rfl, Nat.le_of_ble_eq_true rfl⟩ (sk_recv hK hw kdn_158 (kd_in kdn_158) (by decide) rfl) (sk_pre hK hw) rfl hl.1 rfl (Nat.le_of_ble_eq_true rfl) (okX12_clash (102, .invokevirtual 226, 3) (List.mem_of_getElem? (i := 67) rfl)) ⟨Nat.zero_le _, Nat.zero_le _⟩) hw (fun r_102 I_102 H locs hr_r_102 hM hw => ?_)
      refine lv_aload_n hx hb (okX12_clash (105, .aload_n 0, 1) (List.mem_of_getElem? (i := 68) rfl)) rfl (lv_at hl 4 rfl) ?_
      refine lv_iload_n hx hb (okX12_clash (106, .iload_n 2, 1) (List.mem_of_getElem? (i := 69) rfl)) rfl (lv_at hl 6 rfl) ?_
      refine lv_iload hx hb (okX12_clash (107, .iload 4, 2) (List.mem_of_getElem? (i := 70) rfl)) (lv_at hl 8 rfl) ?_
      refine lv_iconst (v := iI 1) hx hb (okX12_clash (109, .iconst 1, 1) (List.mem_of_getElem? (i := 71) rfl)) rfl ?_
      refine sk_iadd hx hb (okX12_clash (110, .iadd, 1) (List.mem_of_getElem? (i := 72) rfl)) ?_
      refine lv_iload_n hx hb (okX12_clash (111, .iload_n 3, 1) (List.mem_of_getElem? (i := 73) rfl)) rfl (lv_at hl 7 rfl) ?_
      refine sk_ci (sk_runV (a := 158) (C := RX12) (As := [.int (iI v2), .int (iI (v4 + 1)), .int (iI v3)]) (rest := [.int (iI r_102)]) S (c_Mo_placeY l G hr_v2 hr5 hr_v3 hM) sk_blind gX12_clash_X12_placeY rfl hdX12_placeY ⟨⟨rfl, rfl⟩, Nat.le_of_ble_eq_true rfl, Nat.le_of_ble_eq_true rfl⟩ (sk_recv hK hw kdn_158 (kd_in kdn_158) (by decide) rfl) (sk_pre hK hw) rfl hl.1 rfl (Nat.le_of_ble_eq_true rfl) (okX12_clash (112, .invokevirtual 226, 3) (List.mem_of_getElem? (i := 74) rfl)) ⟨Nat.zero_le _, Nat.zero_le _⟩) hw (fun r_112 I_112 H locs hr_r_112 hM hw => ?_)
      refine sk_isub hx hb (okX12_clash (115, .isub, 1) (List.mem_of_getElem? (i := 75) rfl)) ?_
      refine lv_iload hx hb (okX12_clash (116, .iload 6, 2) (List.mem_of_getElem? (i := 76) rfl)) (lv_at hl 2 rfl) ?_
      refine sk_isub hx hb (okX12_clash (118, .isub, 1) (List.mem_of_getElem? (i := 77) rfl)) ?_
      obtain ⟨hr7, hM⟩ := hM
      refine sk_nm (fun v9_119 ev9_119 => ?_)
      have hM := hM v9_119 ev9_119
      have hr_v9_119 : rI v9_119 := by rw [ev9_119]; exact hr7
      refine lv_istore (lv' := [(9, .int (iI v9_119)), (8, .int (iI v8_93)), (7, .int (iI v7_67)), (6, .int (iI v6_48)), (5, .int (iI v5_29)), (0, .ref (sk_ad G 158)), (1, .int (iI v1)), (2, .int (iI v2)), (3, .int (iI v3)), (4, .int (iI v4))]) hx hb (okX12_clash (119, .istore 9, 2) (List.mem_of_getElem? (i := 78) rfl)) hl (by decide) rfl (fun ls hl => ?_)
      refine lv_aload_n hx hb (okX12_clash (121, .aload_n 0, 1) (List.mem_of_getElem? (i := 79) rfl)) rfl (lv_at hl 5 rfl) ?_
      refine lv_iload_n hx hb (okX12_clash (122, .iload_n 1, 1) (List.mem_of_getElem? (i := 80) rfl)) rfl (lv_at hl 6 rfl) ?_
      refine lv_iload hx hb (okX12_clash (123, .iload 4, 2) (List.mem_of_getElem? (i := 81) rfl)) (lv_at hl 9 rfl) ?_
      refine lv_iconst (v := iI 1) hx hb (okX12_clash (125, .iconst 1, 1) (List.mem_of_getElem? (i := 82) rfl)) rfl ?_
      refine sk_iadd hx hb (okX12_clash (126, .iadd, 1) (List.mem_of_getElem? (i := 83) rfl)) ?_
      refine lv_iload_n hx hb (okX12_clash (127, .iload_n 3, 1) (List.mem_of_getElem? (i := 84) rfl)) rfl (lv_at hl 8 rfl) ?_
      refine sk_ci (sk_runV (a := 158) (C := RX12) (As := [.int (iI v1), .int (iI (v4 + 1)), .int (iI v3)]) (rest := []) S (c_Mo_placeZ l G hr_v1 hr5 hr_v3 hM) sk_blind gX12_clash_X12_placeZ rfl hdX12_placeZ ⟨⟨rfl, rfl⟩, Nat.le_of_ble_eq_true rfl, Nat.le_of_ble_eq_true rfl⟩ (sk_recv hK hw kdn_158 (kd_in kdn_158) (by decide) rfl) (sk_pre hK hw) rfl hl.1 rfl (Nat.le_of_ble_eq_true rfl) (okX12_clash (128, .invokevirtual 229, 3) (List.mem_of_getElem? (i := 85) rfl)) ⟨Nat.zero_le _, Nat.zero_le _⟩) hw (fun r_128 I_128 H locs hr_r_128 hM hw => ?_)
      refine lv_aload_n hx hb (okX12_clash (131, .aload_n 0, 1) (List.mem_of_getElem? (i := 86) rfl)) rfl (lv_at hl 5 rfl) ?_
      refine lv_iload_n hx hb (okX12_clash (132, .iload_n 2, 1) (List.mem_of_getElem? (i := 87) rfl)) rfl (lv_at hl 7 rfl) ?_
      refine lv_iload hx hb (okX12_clash (133, .iload 4, 2) (List.mem_of_getElem? (i := 88) rfl)) (lv_at hl 9 rfl) ?_
      refine lv_iconst (v := iI 1) hx hb (okX12_clash (135, .iconst 1, 1) (List.mem_of_getElem? (i := 89) rfl)) rfl ?_
      refine sk_iadd hx hb (okX12_clash (136, .iadd, 1) (List.mem_of_getElem? (i := 90) rfl)) ?_
      refine lv_iload_n hx hb (okX12_clash (137, .iload_n 3, 1) (List.mem_of_getElem? (i := 91) rfl)) rfl (lv_at hl 8 rfl) ?_
      refine sk_ci (sk_runV (a := 158) (C := RX12) (As := [.int (iI v2), .int (iI (v4 + 1)), .int (iI v3)]) (rest := [.int (iI r_128)]) S (c_Mo_placeZ l G hr_v2 hr5 hr_v3 hM) sk_blind gX12_clash_X12_placeZ rfl hdX12_placeZ ⟨⟨rfl, rfl⟩, Nat.le_of_ble_eq_true rfl, Nat.le_of_ble_eq_true rfl⟩ (sk_recv hK hw kdn_158 (kd_in kdn_158) (by decide) rfl) (sk_pre hK hw) rfl hl.1 rfl (Nat.le_of_ble_eq_true rfl) (okX12_clash (138, .invokevirtual 229, 3) (List.mem_of_getElem? (i := 92) rfl)) ⟨Nat.zero_le _, Nat.zero_le _⟩) hw (fun r_138 I_138 H locs hr_r_138 hM hw => ?_)
      refine sk_isub hx hb (okX12_clash (141, .isub, 1) (List.mem_of_getElem? (i := 93) rfl)) ?_
      refine lv_iload hx hb (okX12_clash (142, .iload 7, 2) (List.mem_of_getElem? (i := 94) rfl)) (lv_at hl 2 rfl) ?_
      refine sk_isub hx hb (okX12_clash (144, .isub, 1) (List.mem_of_getElem? (i := 95) rfl)) ?_
      obtain ⟨hr8, hM⟩ := hM
      refine sk_nm (fun v10_145 ev10_145 => ?_)
      have hM := hM v10_145 ev10_145
      have hr_v10_145 : rI v10_145 := by rw [ev10_145]; exact hr8
      refine lv_istore (lv' := [(10, .int (iI v10_145)), (9, .int (iI v9_119)), (8, .int (iI v8_93)), (7, .int (iI v7_67)), (6, .int (iI v6_48)), (5, .int (iI v5_29)), (0, .ref (sk_ad G 158)), (1, .int (iI v1)), (2, .int (iI v2)), (3, .int (iI v3)), (4, .int (iI v4))]) hx hb (okX12_clash (145, .istore 10, 2) (List.mem_of_getElem? (i := 96) rfl)) hl (by decide) rfl (fun ls hl => ?_)
      refine lv_iload hx hb (okX12_clash (147, .iload 5, 2) (List.mem_of_getElem? (i := 97) rfl)) (lv_at hl 5 rfl) ?_
      refine sk_i2l hx hb hr_v5_29 (okX12_clash (149, .i2l, 1) (List.mem_of_getElem? (i := 98) rfl)) ?_
      refine lv_iload hx hb (okX12_clash (150, .iload 6, 2) (List.mem_of_getElem? (i := 99) rfl)) (lv_at hl 4 rfl) ?_
      refine sk_i2l hx hb hr_v6_48 (okX12_clash (152, .i2l, 1) (List.mem_of_getElem? (i := 100) rfl)) ?_
      refine lv_iload hx hb (okX12_clash (153, .iload 7, 2) (List.mem_of_getElem? (i := 101) rfl)) (lv_at hl 3 rfl) ?_
      refine sk_i2l hx hb hr_v7_67 (okX12_clash (155, .i2l, 1) (List.mem_of_getElem? (i := 102) rfl)) ?_
      refine lv_iload hx hb (okX12_clash (156, .iload 8, 2) (List.mem_of_getElem? (i := 103) rfl)) (lv_at hl 2 rfl) ?_
      refine sk_i2l hx hb hr_v8_93 (okX12_clash (158, .i2l, 1) (List.mem_of_getElem? (i := 104) rfl)) ?_
      refine lv_iload hx hb (okX12_clash (159, .iload 9, 2) (List.mem_of_getElem? (i := 105) rfl)) (lv_at hl 1 rfl) ?_
      refine sk_i2l hx hb hr_v9_119 (okX12_clash (161, .i2l, 1) (List.mem_of_getElem? (i := 106) rfl)) ?_
      refine lv_iload hx hb (okX12_clash (162, .iload 10, 2) (List.mem_of_getElem? (i := 107) rfl)) (lv_at hl 0 rfl) ?_
      refine sk_i2l hx hb hr_v10_145 (okX12_clash (164, .i2l, 1) (List.mem_of_getElem? (i := 108) rfl)) ?_
      refine lv_lconst (v := lI 1) hx hb (okX12_clash (165, .lconst 1, 1) (List.mem_of_getElem? (i := 109) rfl)) (by decide +kernel) ?_
      refine lv_aload_n hx hb (okX12_clash (166, .aload_n 0, 1) (List.mem_of_getElem? (i := 110) rfl)) rfl (lv_at hl 6 rfl) ?_
      have hr9 := hw.1.2.2 158 10
      refine sk_geti S hK hw kdn_158 (kd_in kdn_158) (C := RX12) (T := TX12) (N := 53) rfl hI12 10 ⟨by decide, rfl, by decide, rfl⟩ rfl (k' := 10) rfl hL0 (okX12_clash (167, .getfield 34, 3) (List.mem_of_getElem? (i := 111) rfl)) ?_
      refine sk_i2l hx hb hr9 (okX12_clash (170, .i2l, 1) (List.mem_of_getElem? (i := 112) rfl)) ?_
      refine lv_iload_n hx hb (okX12_clash (171, .iload_n 3, 1) (List.mem_of_getElem? (i := 113) rfl)) rfl (lv_at hl 9 rfl) ?_
      refine sk_i2l hx hb hr_v3 (okX12_clash (172, .i2l, 1) (List.mem_of_getElem? (i := 114) rfl)) ?_
      refine sk_lmul hx hb (okX12_clash (173, .lmul, 1) (List.mem_of_getElem? (i := 115) rfl)) ?_
      obtain ⟨hr10, hM⟩ := hM
      refine sk_ci (sk_runS (As := [.long (lI v5_29), .long (lI v6_48), .long (lI v7_67), .long (lI v8_93), .long (lI v9_119), .long (lI v10_145), .long (lI 1), .long (lI ((I_138 158 10) * v3))]) (rest := []) S (c_Mo_isNear l G ⟨Int.le_trans (by decide) (hr_v5_29).1, Int.lt_trans (hr_v5_29).2 (by decide)⟩ ⟨Int.le_trans (by decide) (hr_v6_48).1, Int.lt_trans (hr_v6_48).2 (by decide)⟩ ⟨Int.le_trans (by decide) (hr_v7_67).1, Int.lt_trans (hr_v7_67).2 (by decide)⟩ ⟨Int.le_trans (by decide) (hr_v8_93).1, Int.lt_trans (hr_v8_93).2 (by decide)⟩ ⟨Int.le_trans (by decide) (hr_v9_119).1, Int.lt_trans (hr_v9_119).2 (by decide)⟩ ⟨Int.le_trans (by decide) (hr_v10_145).1, Int.lt_trans (hr_v10_145).2 (by decide)⟩ (by decide) hr10 hM) sk_blind gX12_clash_X12_isNear rfl hdX12_isNear ⟨⟨rfl, rfl⟩, Nat.le_of_ble_eq_true rfl, Nat.le_of_ble_eq_true rfl⟩ (sk_pre hK hw) rfl hl.1 rfl (Nat.le_of_ble_eq_true rfl) (okX12_clash (174, .invokestatic 232, 3) (List.mem_of_getElem? (i := 116) rfl)) ⟨Nat.zero_le _, Nat.zero_le _⟩) hw (fun r_174 I_174 H locs hr_r_174 hM hw => ?_)
      obtain ⟨hb_r_174, hM⟩ := hM
      refine sk_if_eq (tgt := 182) hx hb hr_r_174 (okX12_clash (177, .ifCond .eq 5, 3) (List.mem_of_getElem? (i := 117) rfl)) (by decide) (fun c177 => ?_) (fun c177 => ?_)
      · have hM := hM.1 c177
        obtain ⟨v4_182, ev4_182⟩ : ∃ y : Int, y = v4 + 1 := ⟨_, rfl⟩
        have hM := hM v4_182 ev4_182
        have hr_v4_182 : rI v4_182 := by rw [ev4_182]; exact hr5
        refine lv_iinc (v := iI v4_182) (lv' := [(4, .int (iI v4_182)), (10, .int (iI v10_145)), (9, .int (iI v9_119)), (8, .int (iI v8_93)), (7, .int (iI v7_67)), (6, .int (iI v6_48)), (5, .int (iI v5_29)), (0, .ref (sk_ad G 158)), (1, .int (iI v1)), (2, .int (iI v2)), (3, .int (iI v3))]) hx hb (okX12_clash (182, .iinc 4 1, 3) (List.mem_of_getElem? (i := 120) rfl)) hl (k := 10) rfl (by rw [ev4_182]; exact iI_add _ _) (by decide) rfl (fun ls hl => ?_)
        refine lv_goto (tgt := 3) hx hb (okX12_clash (185, .goto (-182), 3) (List.mem_of_getElem? (i := 121) rfl)) (by decide) ?_
        exact (hX_3 v4_182 I_174).1 hM hr_v4_182 H locs ls hw (lv_sub hl [7, 8, 9, 10, 0] rfl)
      · have hM := hM.2 c177
        refine lv_iconst (v := iI 1) hx hb (okX12_clash (180, .iconst 1, 1) (List.mem_of_getElem? (i := 118) rfl)) rfl ?_
        exact sk_zret hx hb hr0 hlocks hK hw (Or.inr rfl) hM (okX12_clash (181, .ireturn, 1) (List.mem_of_getElem? (i := 119) rfl))
  unfold M_Mo_clash at hM
  intro H locs hw
  refine lv_iconst (v := iI 0) hx hb (okX12_clash (0, .iconst 0, 1) (List.mem_of_getElem? (i := 0) rfl)) rfl ?_
  refine lv_istore (lv' := [(4, .int (iI 0)), (0, .ref (sk_ad G 158)), (1, .int (iI p1)), (2, .int (iI p2)), (3, .int (iI p3))]) hx hb (okX12_clash (1, .istore 4, 2) (List.mem_of_getElem? (i := 1) rfl)) hl (by decide) rfl (fun ls hl => ?_)
  exact hJ_3 p1 p2 p3 0 I hr_p1 hr_p2 hr_p3 (by decide) hM H locs ls hw (lv_sub hl [1, 2, 3, 4, 0] rfl)
def rmX12_isOfPass : Room := { frames := 0, cells := 0, slots := 0, locals := 0 }
set_option maxHeartbeats 4000000 in
set_option maxRecDepth 100000 in
theorem c_Mo_isOfPass (l : Launch) (G : sk_G) {p1 : Int} (hr_p1 : rI p1) {Q : Int → sk_S → Prop} {I : sk_S} (hM : M_Mo_isOfPass p1 Q I) : Met l yX12_isOfPass wsX12_isOfPass rmX12_isOfPass (va_Pc [.ref (sk_ad G 158), .int (iI p1)] (sk_U G 198 sk_t I)) (sk_Qz G 198 sk_t Q) 0 0 (sk_A G) := by
  refine Met.ofW (cc := cX12_isOfPass) (maxL := 2) (ret := (some .boolean)) (by decide) rfl ?_
  intro p e s m args below meth c s₁ B hml hv
  obtain ⟨rfl, hU, hK⟩ := hv
  have hx := B.exec
  have hb := B.bytes
  have hr0 := B.returns
  have hts := atoms_spec (ws := wsX12_isOfPass) B.pre
  have hown : s.vm.findClass RX12 = some m.cls := findClass_of_methodNamed B.named
  have hlocks := B.notSynchronized
  have S : CallFix p m c cX12_isOfPass 2 s ([.ref (sk_ad G 158), .int (iI p1)].toArray) wsX12_isOfPass RX12 := ⟨hx, hb, hml, hown, hts⟩
  have hL0 := hts (.fieldLink RX12 65 "SkyLightsModel" "manyOf" "[I") (by decide +kernel)
  have hI12 : ∀ w ∈ u_ws RX12 TX12 53, w ∈ wsX12_isOfPass := by decide +kernel
  have hw : sk_W G 198 sk_t I s s.heap [] := ⟨hU, va_S.rf⟩
  have hl := lv_entry ([.ref (sk_ad G 158), .int (iI p1)]) (n := 2) (Nat.le_of_ble_eq_true rfl)
  rw [lg_entry_eq]
  generalize (lg_sl ([.ref (sk_ad G 158), .int (iI p1)]) ++ List.replicate (2 - (lg_sl ([.ref (sk_ad G 158), .int (iI p1)])).length) Slot.unset).toArray = ls at hl ⊢
  have hl : lv_has ls 2 [(0, .ref (sk_ad G 158)), (1, .int (iI p1))] := hl
  suffices hgo : ∀ (H : Heap) (locs : List Loc), sk_W G 198 sk_t I s H locs → W p l e (headSpec wsX12_isOfPass rmX12_isOfPass).room s m ([.ref (sk_ad G 158), .int (iI p1)].toArray) below meth c H locs 0 0 (MQ below (sk_Qz G 198 sk_t Q) ([.ref (sk_ad G 158), .int (iI p1)].toArray) s 0 0 (sk_A G)) (F0 m 0 ls []) from hgo _ _ hw
  unfold M_Mo_isOfPass at hM
  intro H locs hw
  refine lv_iload_n hx hb (okX12_isOfPass (0, .iload_n 1, 1) (List.mem_of_getElem? (i := 0) rfl)) rfl (lv_at hl 1 rfl) ?_
  refine sk_if_lt (tgt := 18) hx hb hr_p1 (okX12_isOfPass (1, .ifCond .lt 17, 3) (List.mem_of_getElem? (i := 1) rfl)) (by decide) (fun c1 => ?_) (fun c1 => ?_)
  · have hM := hM.1 c1
    refine lv_iconst (v := iI 0) hx hb (okX12_isOfPass (18, .iconst 0, 1) (List.mem_of_getElem? (i := 10) rfl)) rfl ?_
    exact sk_zret hx hb hr0 hlocks hK hw (Or.inl rfl) hM (okX12_isOfPass (19, .ireturn, 1) (List.mem_of_getElem? (i := 11) rfl))
  · have hM := hM.2 c1
    refine lv_iload_n hx hb (okX12_isOfPass (4, .iload_n 1, 1) (List.mem_of_getElem? (i := 2) rfl)) rfl (lv_at hl 1 rfl) ?_
    refine lv_aload_n hx hb (okX12_isOfPass (5, .aload_n 0, 1) (List.mem_of_getElem? (i := 3) rfl)) rfl (lv_at hl 0 rfl) ?_
    refine sk_getr (b := 176) S hK hw kdn_158 (kd_in kdn_158) (C := RX12) (T := TX12) (N := 53) rfl hI12 26 ⟨by decide, rfl, by decide, rfl⟩ rfl (k' := 26) rfl rfl (by decide +kernel) hL0 (okX12_isOfPass (6, .getfield 65, 3) (List.mem_of_getElem? (i := 4) rfl)) ?_
    refine lv_iconst (v := iI 0) hx hb (okX12_isOfPass (9, .iconst 0, 1) (List.mem_of_getElem? (i := 5) rfl)) rfl ?_
    obtain ⟨hi1, hM⟩ := hM
    have hr2 := hw.1.2.2 176 0
    refine sk_ild S hK hw kdn_176 (kd_in kdn_176) (by rw [lnn_176]; exact hi1) (okX12_isOfPass (10, .iaload, 1) (List.mem_of_getElem? (i := 6) rfl)) ?_
    refine sk_icmp_ge (tgt := 18) hx hb hr_p1 hr2 (okX12_isOfPass (11, .if_icmp .ge 7, 3) (List.mem_of_getElem? (i := 7) rfl)) (by decide) (fun c11 => ?_) (fun c11 => ?_)
    · have hM := hM.1 c11
      refine lv_iconst (v := iI 0) hx hb (okX12_isOfPass (18, .iconst 0, 1) (List.mem_of_getElem? (i := 10) rfl)) rfl ?_
      exact sk_zret hx hb hr0 hlocks hK hw (Or.inl rfl) hM (okX12_isOfPass (19, .ireturn, 1) (List.mem_of_getElem? (i := 11) rfl))
    · have hM := hM.2 c11
      refine lv_iconst (v := iI 1) hx hb (okX12_isOfPass (14, .iconst 1, 1) (List.mem_of_getElem? (i := 8) rfl)) rfl ?_
      refine lv_goto (tgt := 19) hx hb (okX12_isOfPass (15, .goto 4, 3) (List.mem_of_getElem? (i := 9) rfl)) (by decide) ?_
      exact sk_zret hx hb hr0 hlocks hK hw (Or.inr rfl) hM (okX12_isOfPass (19, .ireturn, 1) (List.mem_of_getElem? (i := 11) rfl))
def rmX12_clash_ : Room := { frames := 3, cells := 0, slots := 0, locals := 172 }
set_option maxHeartbeats 4000000 in
set_option maxRecDepth 100000 in
theorem c_Mo_clash_ (l : Launch) (G : sk_G) {p1 p2 : Int} (hr_p1 : rI p1) (hr_p2 : rI p2) {Q : Int → sk_S → Prop} {I : sk_S} (hM : M_Mo_clash_ p1 p2 Q I) : Met l yX12_clash_ wsX12_clash_ rmX12_clash_ (va_Pc [.ref (sk_ad G 158), .int (iI p1), .int (iI p2)] (sk_U G 198 sk_t I)) (sk_Qi G 198 sk_t Q) 0 0 (sk_A G) := by
  refine Met.ofW (cc := cX12_clash_) (maxL := 3) (ret := (some .int)) (by decide) rfl ?_
  intro p e s m args below meth c s₁ B hml hv
  obtain ⟨rfl, hU, hK⟩ := hv
  have hx := B.exec
  have hb := B.bytes
  have hr0 := B.returns
  have hts := atoms_spec (ws := wsX12_clash_) B.pre
  have hown : s.vm.findClass RX12 = some m.cls := findClass_of_methodNamed B.named
  have hlocks := B.notSynchronized
  have S : CallFix p m c cX12_clash_ 3 s ([.ref (sk_ad G 158), .int (iI p1), .int (iI p2)].toArray) wsX12_clash_ RX12 := ⟨hx, hb, hml, hown, hts⟩
  have hL0 := hts (.fieldLink RX12 62 "SkyLightsModel" "ticksOf" "[I") (by decide +kernel)
  have hI12 : ∀ w ∈ u_ws RX12 TX12 53, w ∈ wsX12_clash_ := by decide +kernel
  have hw : sk_W G 198 sk_t I s s.heap [] := ⟨hU, va_S.rf⟩
  have hl := lv_entry ([.ref (sk_ad G 158), .int (iI p1), .int (iI p2)]) (n := 3) (Nat.le_of_ble_eq_true rfl)
  rw [lg_entry_eq]
  generalize (lg_sl ([.ref (sk_ad G 158), .int (iI p1), .int (iI p2)]) ++ List.replicate (3 - (lg_sl ([.ref (sk_ad G 158), .int (iI p1), .int (iI p2)])).length) Slot.unset).toArray = ls at hl ⊢
  have hl : lv_has ls 3 [(0, .ref (sk_ad G 158)), (1, .int (iI p1)), (2, .int (iI p2))] := hl
  suffices hgo : ∀ (H : Heap) (locs : List Loc), sk_W G 198 sk_t I s H locs → W p l e (headSpec wsX12_clash_ rmX12_clash_).room s m ([.ref (sk_ad G 158), .int (iI p1), .int (iI p2)].toArray) below meth c H locs 0 0 (MQ below (sk_Qi G 198 sk_t Q) ([.ref (sk_ad G 158), .int (iI p1), .int (iI p2)].toArray) s 0 0 (sk_A G)) (F0 m 0 ls []) from hgo _ _ hw
  unfold M_Mo_clash_ at hM
  intro H locs hw
  refine lv_aload_n hx hb (okX12_clash_ (0, .aload_n 0, 1) (List.mem_of_getElem? (i := 0) rfl)) rfl (lv_at hl 0 rfl) ?_
  refine lv_iload_n hx hb (okX12_clash_ (1, .iload_n 1, 1) (List.mem_of_getElem? (i := 1) rfl)) rfl (lv_at hl 1 rfl) ?_
  refine sk_ci (sk_runV (a := 158) (C := RX12) (As := [.int (iI p1)]) (rest := []) S (c_Mo_isOfPass l G hr_p1 hM) sk_blind gX12_clash__X12_isOfPass rfl hdX12_isOfPass ⟨⟨rfl, rfl⟩, Nat.le_of_ble_eq_true rfl, Nat.le_of_ble_eq_true rfl⟩ (sk_recv hK hw kdn_158 (kd_in kdn_158) (by decide) rfl) (sk_pre hK hw) rfl hl.1 rfl (Nat.le_of_ble_eq_true rfl) (okX12_clash_ (2, .invokevirtual 260, 3) (List.mem_of_getElem? (i := 2) rfl)) ⟨Nat.zero_le _, Nat.zero_le _⟩) hw (fun r_2 I_2 H locs hr_r_2 hM hw => ?_)
  obtain ⟨hb_r_2, hM⟩ := hM
  refine sk_if_eq (tgt := 16) hx hb hr_r_2 (okX12_clash_ (5, .ifCond .eq 11, 3) (List.mem_of_getElem? (i := 3) rfl)) (by decide) (fun c5 => ?_) (fun c5 => ?_)
  · have hM := hM.1 c5
    refine lv_iconst (v := iI (-1)) hx hb (okX12_clash_ (16, .iconst (-1), 1) (List.mem_of_getElem? (i := 8) rfl)) rfl ?_
    exact sk_iret hx hb hr0 hlocks hK hw (by decide) hM (okX12_clash_ (17, .ireturn, 1) (List.mem_of_getElem? (i := 9) rfl))
  · have hM := hM.2 c5
    refine lv_aload_n hx hb (okX12_clash_ (8, .aload_n 0, 1) (List.mem_of_getElem? (i := 4) rfl)) rfl (lv_at hl 0 rfl) ?_
    refine lv_iload_n hx hb (okX12_clash_ (9, .iload_n 2, 1) (List.mem_of_getElem? (i := 5) rfl)) rfl (lv_at hl 2 rfl) ?_
    refine sk_ci (sk_runV (a := 158) (C := RX12) (As := [.int (iI p2)]) (rest := []) S (c_Mo_isOfPass l G hr_p2 hM) sk_blind gX12_clash__X12_isOfPass rfl hdX12_isOfPass ⟨⟨rfl, rfl⟩, Nat.le_of_ble_eq_true rfl, Nat.le_of_ble_eq_true rfl⟩ (sk_recv hK hw kdn_158 (kd_in kdn_158) (by decide) rfl) (sk_pre hK hw) rfl hl.1 rfl (Nat.le_of_ble_eq_true rfl) (okX12_clash_ (10, .invokevirtual 260, 3) (List.mem_of_getElem? (i := 6) rfl)) ⟨Nat.zero_le _, Nat.zero_le _⟩) hw (fun r_10 I_10 H locs hr_r_10 hM hw => ?_)
    obtain ⟨hb_r_10, hM⟩ := hM
    refine sk_if_ne (tgt := 18) hx hb hr_r_10 (okX12_clash_ (13, .ifCond .ne 5, 3) (List.mem_of_getElem? (i := 7) rfl)) (by decide) (fun c13 => ?_) (fun c13 => ?_)
    · have hM := hM.1 c13
      refine lv_iload_n hx hb (okX12_clash_ (18, .iload_n 1, 1) (List.mem_of_getElem? (i := 10) rfl)) rfl (lv_at hl 1 rfl) ?_
      refine lv_iload_n hx hb (okX12_clash_ (19, .iload_n 2, 1) (List.mem_of_getElem? (i := 11) rfl)) rfl (lv_at hl 2 rfl) ?_
      refine sk_icmp_ne (tgt := 26) hx hb hr_p1 hr_p2 (okX12_clash_ (20, .if_icmp .ne 6, 3) (List.mem_of_getElem? (i := 12) rfl)) (by decide) (fun c20 => ?_) (fun c20 => ?_)
      · have hM := hM.1 c20
        refine lv_aload_n hx hb (okX12_clash_ (26, .aload_n 0, 1) (List.mem_of_getElem? (i := 15) rfl)) rfl (lv_at hl 0 rfl) ?_
        refine lv_iload_n hx hb (okX12_clash_ (27, .iload_n 1, 1) (List.mem_of_getElem? (i := 16) rfl)) rfl (lv_at hl 1 rfl) ?_
        refine lv_iload_n hx hb (okX12_clash_ (28, .iload_n 2, 1) (List.mem_of_getElem? (i := 17) rfl)) rfl (lv_at hl 2 rfl) ?_
        refine lv_aload_n hx hb (okX12_clash_ (29, .aload_n 0, 1) (List.mem_of_getElem? (i := 18) rfl)) rfl (lv_at hl 0 rfl) ?_
        refine sk_getr (b := 175) S hK hw kdn_158 (kd_in kdn_158) (C := RX12) (T := TX12) (N := 53) rfl hI12 25 ⟨by decide, rfl, by decide, rfl⟩ rfl (k' := 25) rfl rfl (by decide +kernel) hL0 (okX12_clash_ (30, .getfield 62, 3) (List.mem_of_getElem? (i := 19) rfl)) ?_
        refine lv_iconst (v := iI 0) hx hb (okX12_clash_ (33, .iconst 0, 1) (List.mem_of_getElem? (i := 20) rfl)) rfl ?_
        obtain ⟨hi1, hM⟩ := hM
        have hr2 := hw.1.2.2 175 0
        refine sk_ild S hK hw kdn_175 (kd_in kdn_175) (by rw [lnn_175]; exact hi1) (okX12_clash_ (34, .iaload, 1) (List.mem_of_getElem? (i := 21) rfl)) ?_
        refine sk_ci (sk_runV (a := 158) (C := RX12) (As := [.int (iI p1), .int (iI p2), .int (iI (I_10 175 0))]) (rest := []) S (c_Mo_clash l G hr_p1 hr_p2 hr2 hM) sk_blind gX12_clash__X12_clash rfl hdX12_clash ⟨⟨rfl, rfl⟩, Nat.le_of_ble_eq_true rfl, Nat.le_of_ble_eq_true rfl⟩ (sk_recv hK hw kdn_158 (kd_in kdn_158) (by decide) rfl) (sk_pre hK hw) rfl hl.1 rfl (Nat.le_of_ble_eq_true rfl) (okX12_clash_ (35, .invokevirtual 240, 3) (List.mem_of_getElem? (i := 22) rfl)) ⟨Nat.zero_le _, Nat.zero_le _⟩) hw (fun r_35 I_35 H locs hr_r_35 hM hw => ?_)
        obtain ⟨hb_r_35, hM⟩ := hM
        refine sk_if_eq (tgt := 45) hx hb hr_r_35 (okX12_clash_ (38, .ifCond .eq 7, 3) (List.mem_of_getElem? (i := 23) rfl)) (by decide) (fun c38 => ?_) (fun c38 => ?_)
        · have hM := hM.1 c38
          refine lv_iconst (v := iI 0) hx hb (okX12_clash_ (45, .iconst 0, 1) (List.mem_of_getElem? (i := 26) rfl)) rfl ?_
          exact sk_iret hx hb hr0 hlocks hK hw (by decide) hM (okX12_clash_ (46, .ireturn, 1) (List.mem_of_getElem? (i := 27) rfl))
        · have hM := hM.2 c38
          refine lv_iconst (v := iI 1) hx hb (okX12_clash_ (41, .iconst 1, 1) (List.mem_of_getElem? (i := 24) rfl)) rfl ?_
          refine lv_goto (tgt := 46) hx hb (okX12_clash_ (42, .goto 4, 3) (List.mem_of_getElem? (i := 25) rfl)) (by decide) ?_
          exact sk_iret hx hb hr0 hlocks hK hw (by decide) hM (okX12_clash_ (46, .ireturn, 1) (List.mem_of_getElem? (i := 27) rfl))
      · have hM := hM.2 c20
        refine lv_bipush (v := iI (-2)) hx hb (okX12_clash_ (23, .bipush (-2), 2) (List.mem_of_getElem? (i := 13) rfl)) (by decide +kernel) ?_
        exact sk_iret hx hb hr0 hlocks hK hw (by decide) hM (okX12_clash_ (25, .ireturn, 1) (List.mem_of_getElem? (i := 14) rfl))
    · have hM := hM.2 c13
      refine lv_iconst (v := iI (-1)) hx hb (okX12_clash_ (16, .iconst (-1), 1) (List.mem_of_getElem? (i := 8) rfl)) rfl ?_
      exact sk_iret hx hb hr0 hlocks hK hw (by decide) hM (okX12_clash_ (17, .ireturn, 1) (List.mem_of_getElem? (i := 9) rfl))
def rmX12_enters : Room := { frames := 2, cells := 0, slots := 0, locals := 110 }
set_option maxHeartbeats 4000000 in
set_option maxRecDepth 100000 in
theorem c_Mo_enters (l : Launch) (G : sk_G) {p1 p2 : Int} (hr_p1 : rI p1) (hr_p2 : rI p2) {Q : Int → sk_S → Prop} {I : sk_S} (hM : M_Mo_enters p1 p2 Q I) : Met l yX12_enters wsX12_enters rmX12_enters (va_Pc [.ref (sk_ad G 158), .int (iI p1), .int (iI p2)] (sk_U G 198 sk_t I)) (sk_Qz G 198 sk_t Q) 0 0 (sk_A G) := by
  refine Met.ofW (cc := cX12_enters) (maxL := 8) (ret := (some .boolean)) (by decide) rfl ?_
  intro p e s m args below meth c s₁ B hml hv
  obtain ⟨rfl, hU, hK⟩ := hv
  have hx := B.exec
  have hb := B.bytes
  have hr0 := B.returns
  have hts := atoms_spec (ws := wsX12_enters) B.pre
  have hown : s.vm.findClass RX12 = some m.cls := findClass_of_methodNamed B.named
  have hlocks := B.notSynchronized
  have S : CallFix p m c cX12_enters 8 s ([.ref (sk_ad G 158), .int (iI p1), .int (iI p2)].toArray) wsX12_enters RX12 := ⟨hx, hb, hml, hown, hts⟩
  have hL0 := hts (.fieldLink RX12 216 "SkyLightsModel" "radius" "I") (by decide +kernel)
  have hL1 := hts (.fieldLink RX12 210 "SkyLightsModel" "zoneX" "I") (by decide +kernel)
  have hL2 := hts (.fieldLink RX12 213 "SkyLightsModel" "zoneY" "I") (by decide +kernel)
  have hI12 : ∀ w ∈ u_ws RX12 TX12 53, w ∈ wsX12_enters := by decide +kernel
  have hw : sk_W G 198 sk_t I s s.heap [] := ⟨hU, va_S.rf⟩
  have hl := lv_entry ([.ref (sk_ad G 158), .int (iI p1), .int (iI p2)]) (n := 8) (Nat.le_of_ble_eq_true rfl)
  rw [lg_entry_eq]
  generalize (lg_sl ([.ref (sk_ad G 158), .int (iI p1), .int (iI p2)]) ++ List.replicate (8 - (lg_sl ([.ref (sk_ad G 158), .int (iI p1), .int (iI p2)])).length) Slot.unset).toArray = ls at hl ⊢
  have hl : lv_has ls 8 [(0, .ref (sk_ad G 158)), (1, .int (iI p1)), (2, .int (iI p2))] := hl
  suffices hgo : ∀ (H : Heap) (locs : List Loc), sk_W G 198 sk_t I s H locs → W p l e (headSpec wsX12_enters rmX12_enters).room s m ([.ref (sk_ad G 158), .int (iI p1), .int (iI p2)].toArray) below meth c H locs 0 0 (MQ below (sk_Qz G 198 sk_t Q) ([.ref (sk_ad G 158), .int (iI p1), .int (iI p2)].toArray) s 0 0 (sk_A G)) (F0 m 0 ls []) from hgo _ _ hw
  have hJ_2 : ∀ (v1 v2 v3 : Int) (I : sk_S), rI v1 → rI v2 → rI v3 → L_Mo_enters_2 v1 v2 Q v3 I → ∀ (H : Heap) (locs : List Loc) (ls : Array Slot), sk_W G 198 sk_t I s H locs → lv_has ls 8 [(0, .ref (sk_ad G 158)), (1, .int (iI v1)), (2, .int (iI v2)), (3, .int (iI v3))] → W p l e (headSpec wsX12_enters rmX12_enters).room s m ([.ref (sk_ad G 158), .int (iI p1), .int (iI p2)].toArray) below meth c H locs 0 0 (MQ below (sk_Qz G 198 sk_t Q) ([.ref (sk_ad G 158), .int (iI p1), .int (iI p2)].toArray) s 0 0 (sk_A G)) (F0 m 2 ls []) := by
    intro v1 v2 v3 I hr_v1 hr_v2 hr_v3 hM H locs ls hw hl
    unfold L_Mo_enters_2 at hM
    obtain ⟨X_2, hX_2⟩ : ∃ X : Int → sk_S → Prop, ∀ (v3 : Int) (I : sk_S), X v3 I ↔ (rI v3 → ∀ (H : Heap) (locs : List Loc) (ls : Array Slot), sk_W G 198 sk_t I s H locs → lv_has ls 8 [(0, .ref (sk_ad G 158)), (1, .int (iI v1)), (2, .int (iI v2)), (3, .int (iI v3))] → W p l e (headSpec wsX12_enters rmX12_enters).room s m ([.ref (sk_ad G 158), .int (iI p1), .int (iI p2)].toArray) below meth c H locs 0 0 (MQ below (sk_Qz G 198 sk_t Q) ([.ref (sk_ad G 158), .int (iI p1), .int (iI p2)].toArray) s 0 0 (sk_A G)) (F0 m 2 ls [])) := ⟨_, fun _ _ => Iff.rfl⟩
    refine (hX_2 v3 I).1 (hM X_2 (fun v3 I hM => (hX_2 v3 I).2 (fun hr_v3 H locs ls hw hl => ?_))) hr_v3 H locs ls hw hl
    refine lv_iload_n hx hb (okX12_enters (2, .iload_n 3, 1) (List.mem_of_getElem? (i := 2) rfl)) rfl (lv_at hl 3 rfl) ?_
    refine lv_iload_n hx hb (okX12_enters (3, .iload_n 2, 1) (List.mem_of_getElem? (i := 3) rfl)) rfl (lv_at hl 2 rfl) ?_
    refine lv_bipush (v := iI 9) hx hb (okX12_enters (4, .bipush 9, 2) (List.mem_of_getElem? (i := 4) rfl)) (by decide +kernel) ?_
    refine sk_iadd hx hb (okX12_enters (6, .iadd, 1) (List.mem_of_getElem? (i := 5) rfl)) ?_
    obtain ⟨hr1, hM⟩ := hM
    refine sk_icmp_ge (tgt := 128) hx hb hr_v3 hr1 (okX12_enters (7, .if_icmp .ge 121, 3) (List.mem_of_getElem? (i := 6) rfl)) (by decide) (fun c7 => ?_) (fun c7 => ?_)
    · have hM := hM.1 c7
      refine lv_iconst (v := iI 0) hx hb (okX12_enters (128, .iconst 0, 1) (List.mem_of_getElem? (i := 85) rfl)) rfl ?_
      exact sk_zret hx hb hr0 hlocks hK hw (Or.inl rfl) hM (okX12_enters (129, .ireturn, 1) (List.mem_of_getElem? (i := 86) rfl))
    · have hM := hM.2 c7
      refine lv_aload_n hx hb (okX12_enters (10, .aload_n 0, 1) (List.mem_of_getElem? (i := 7) rfl)) rfl (lv_at hl 0 rfl) ?_
      have hr2 := hw.1.2.2 158 13
      refine sk_geti S hK hw kdn_158 (kd_in kdn_158) (C := RX12) (T := TX12) (N := 53) rfl hI12 13 ⟨by decide, rfl, by decide, rfl⟩ rfl (k' := 13) rfl hL0 (okX12_enters (11, .getfield 216, 3) (List.mem_of_getElem? (i := 8) rfl)) ?_
      refine sk_if_le (tgt := 128) hx hb hr2 (okX12_enters (14, .ifCond .le 114, 3) (List.mem_of_getElem? (i := 9) rfl)) (by decide) (fun c14 => ?_) (fun c14 => ?_)
      · have hM := hM.1 c14
        refine lv_iconst (v := iI 0) hx hb (okX12_enters (128, .iconst 0, 1) (List.mem_of_getElem? (i := 85) rfl)) rfl ?_
        exact sk_zret hx hb hr0 hlocks hK hw (Or.inl rfl) hM (okX12_enters (129, .ireturn, 1) (List.mem_of_getElem? (i := 86) rfl))
      · have hM := hM.2 c14
        refine lv_aload_n hx hb (okX12_enters (17, .aload_n 0, 1) (List.mem_of_getElem? (i := 10) rfl)) rfl (lv_at hl 0 rfl) ?_
        refine lv_iload_n hx hb (okX12_enters (18, .iload_n 1, 1) (List.mem_of_getElem? (i := 11) rfl)) rfl (lv_at hl 1 rfl) ?_
        refine lv_iload_n hx hb (okX12_enters (19, .iload_n 3, 1) (List.mem_of_getElem? (i := 12) rfl)) rfl (lv_at hl 3 rfl) ?_
        refine lv_iload_n hx hb (okX12_enters (20, .iload_n 2, 1) (List.mem_of_getElem? (i := 13) rfl)) rfl (lv_at hl 2 rfl) ?_
        refine sk_ci (sk_runV (a := 158) (C := RX12) (As := [.int (iI v1), .int (iI v3), .int (iI v2)]) (rest := []) S (c_Mo_placeX l G hr_v1 hr_v3 hr_v2 hM) sk_blind gX12_enters_X12_placeX rfl hdX12_placeX ⟨⟨rfl, rfl⟩, Nat.le_of_ble_eq_true rfl, Nat.le_of_ble_eq_true rfl⟩ (sk_recv hK hw kdn_158 (kd_in kdn_158) (by decide) rfl) (sk_pre hK hw) rfl hl.1 rfl (Nat.le_of_ble_eq_true rfl) (okX12_enters (21, .invokevirtual 223, 3) (List.mem_of_getElem? (i := 14) rfl)) ⟨Nat.zero_le _, Nat.zero_le _⟩) hw (fun r_21 I_21 H locs hr_r_21 hM hw => ?_)
        refine lv_iload_n hx hb (okX12_enters (24, .iload_n 2, 1) (List.mem_of_getElem? (i := 15) rfl)) rfl (lv_at hl 2 rfl) ?_
        refine lv_aload_n hx hb (okX12_enters (25, .aload_n 0, 1) (List.mem_of_getElem? (i := 16) rfl)) rfl (lv_at hl 0 rfl) ?_
        have hr3 := hw.1.2.2 158 11
        refine sk_geti S hK hw kdn_158 (kd_in kdn_158) (C := RX12) (T := TX12) (N := 53) rfl hI12 11 ⟨by decide, rfl, by decide, rfl⟩ rfl (k' := 11) rfl hL1 (okX12_enters (26, .getfield 210, 3) (List.mem_of_getElem? (i := 17) rfl)) ?_
        refine sk_imul hx hb (okX12_enters (29, .imul, 1) (List.mem_of_getElem? (i := 18) rfl)) ?_
        refine sk_isub hx hb (okX12_enters (30, .isub, 1) (List.mem_of_getElem? (i := 19) rfl)) ?_
        obtain ⟨hr4, hM⟩ := hM
        refine sk_nm (fun v4_31 ev4_31 => ?_)
        have hM := hM v4_31 ev4_31
        have hr_v4_31 : rI v4_31 := by rw [ev4_31]; exact hr4
        refine lv_istore (lv' := [(4, .int (iI v4_31)), (0, .ref (sk_ad G 158)), (1, .int (iI v1)), (2, .int (iI v2)), (3, .int (iI v3))]) hx hb (okX12_enters (31, .istore 4, 2) (List.mem_of_getElem? (i := 20) rfl)) hl (by decide) rfl (fun ls hl => ?_)
        refine lv_aload_n hx hb (okX12_enters (33, .aload_n 0, 1) (List.mem_of_getElem? (i := 21) rfl)) rfl (lv_at hl 1 rfl) ?_
        refine lv_iload_n hx hb (okX12_enters (34, .iload_n 1, 1) (List.mem_of_getElem? (i := 22) rfl)) rfl (lv_at hl 2 rfl) ?_
        refine lv_iload_n hx hb (okX12_enters (35, .iload_n 3, 1) (List.mem_of_getElem? (i := 23) rfl)) rfl (lv_at hl 4 rfl) ?_
        refine lv_iload_n hx hb (okX12_enters (36, .iload_n 2, 1) (List.mem_of_getElem? (i := 24) rfl)) rfl (lv_at hl 3 rfl) ?_
        refine sk_ci (sk_runV (a := 158) (C := RX12) (As := [.int (iI v1), .int (iI v3), .int (iI v2)]) (rest := []) S (c_Mo_placeY l G hr_v1 hr_v3 hr_v2 hM) sk_blind gX12_enters_X12_placeY rfl hdX12_placeY ⟨⟨rfl, rfl⟩, Nat.le_of_ble_eq_true rfl, Nat.le_of_ble_eq_true rfl⟩ (sk_recv hK hw kdn_158 (kd_in kdn_158) (by decide) rfl) (sk_pre hK hw) rfl hl.1 rfl (Nat.le_of_ble_eq_true rfl) (okX12_enters (37, .invokevirtual 226, 3) (List.mem_of_getElem? (i := 25) rfl)) ⟨Nat.zero_le _, Nat.zero_le _⟩) hw (fun r_37 I_37 H locs hr_r_37 hM hw => ?_)
        refine lv_iload_n hx hb (okX12_enters (40, .iload_n 2, 1) (List.mem_of_getElem? (i := 26) rfl)) rfl (lv_at hl 3 rfl) ?_
        refine lv_aload_n hx hb (okX12_enters (41, .aload_n 0, 1) (List.mem_of_getElem? (i := 27) rfl)) rfl (lv_at hl 1 rfl) ?_
        have hr5 := hw.1.2.2 158 12
        refine sk_geti S hK hw kdn_158 (kd_in kdn_158) (C := RX12) (T := TX12) (N := 53) rfl hI12 12 ⟨by decide, rfl, by decide, rfl⟩ rfl (k' := 12) rfl hL2 (okX12_enters (42, .getfield 213, 3) (List.mem_of_getElem? (i := 28) rfl)) ?_
        refine sk_imul hx hb (okX12_enters (45, .imul, 1) (List.mem_of_getElem? (i := 29) rfl)) ?_
        refine sk_isub hx hb (okX12_enters (46, .isub, 1) (List.mem_of_getElem? (i := 30) rfl)) ?_
        obtain ⟨hr6, hM⟩ := hM
        refine sk_nm (fun v5_47 ev5_47 => ?_)
        have hM := hM v5_47 ev5_47
        have hr_v5_47 : rI v5_47 := by rw [ev5_47]; exact hr6
        refine lv_istore (lv' := [(5, .int (iI v5_47)), (4, .int (iI v4_31)), (0, .ref (sk_ad G 158)), (1, .int (iI v1)), (2, .int (iI v2)), (3, .int (iI v3))]) hx hb (okX12_enters (47, .istore 5, 2) (List.mem_of_getElem? (i := 31) rfl)) hl (by decide) rfl (fun ls hl => ?_)
        refine lv_aload_n hx hb (okX12_enters (49, .aload_n 0, 1) (List.mem_of_getElem? (i := 32) rfl)) rfl (lv_at hl 2 rfl) ?_
        refine lv_iload_n hx hb (okX12_enters (50, .iload_n 1, 1) (List.mem_of_getElem? (i := 33) rfl)) rfl (lv_at hl 3 rfl) ?_
        refine lv_iload_n hx hb (okX12_enters (51, .iload_n 3, 1) (List.mem_of_getElem? (i := 34) rfl)) rfl (lv_at hl 5 rfl) ?_
        refine lv_iconst (v := iI 1) hx hb (okX12_enters (52, .iconst 1, 1) (List.mem_of_getElem? (i := 35) rfl)) rfl ?_
        refine sk_iadd hx hb (okX12_enters (53, .iadd, 1) (List.mem_of_getElem? (i := 36) rfl)) ?_
        refine lv_iload_n hx hb (okX12_enters (54, .iload_n 2, 1) (List.mem_of_getElem? (i := 37) rfl)) rfl (lv_at hl 4 rfl) ?_
        obtain ⟨hr7, hM⟩ := hM
        refine sk_ci (sk_runV (a := 158) (C := RX12) (As := [.int (iI v1), .int (iI (v3 + 1)), .int (iI v2)]) (rest := []) S (c_Mo_placeX l G hr_v1 hr7 hr_v2 hM) sk_blind gX12_enters_X12_placeX rfl hdX12_placeX ⟨⟨rfl, rfl⟩, Nat.le_of_ble_eq_true rfl, Nat.le_of_ble_eq_true rfl⟩ (sk_recv hK hw kdn_158 (kd_in kdn_158) (by decide) rfl) (sk_pre hK hw) rfl hl.1 rfl (Nat.le_of_ble_eq_true rfl) (okX12_enters (55, .invokevirtual 223, 3) (List.mem_of_getElem? (i := 38) rfl)) ⟨Nat.zero_le _, Nat.zero_le _⟩) hw (fun r_55 I_55 H locs hr_r_55 hM hw => ?_)
        refine lv_iload_n hx hb (okX12_enters (58, .iload_n 2, 1) (List.mem_of_getElem? (i := 39) rfl)) rfl (lv_at hl 4 rfl) ?_
        refine lv_aload_n hx hb (okX12_enters (59, .aload_n 0, 1) (List.mem_of_getElem? (i := 40) rfl)) rfl (lv_at hl 2 rfl) ?_
        have hr8 := hw.1.2.2 158 11
        refine sk_geti S hK hw kdn_158 (kd_in kdn_158) (C := RX12) (T := TX12) (N := 53) rfl hI12 11 ⟨by decide, rfl, by decide, rfl⟩ rfl (k' := 11) rfl hL1 (okX12_enters (60, .getfield 210, 3) (List.mem_of_getElem? (i := 41) rfl)) ?_
        refine sk_imul hx hb (okX12_enters (63, .imul, 1) (List.mem_of_getElem? (i := 42) rfl)) ?_
        refine sk_isub hx hb (okX12_enters (64, .isub, 1) (List.mem_of_getElem? (i := 43) rfl)) ?_
        refine lv_iload hx hb (okX12_enters (65, .iload 4, 2) (List.mem_of_getElem? (i := 44) rfl)) (lv_at hl 1 rfl) ?_
        refine sk_isub hx hb (okX12_enters (67, .isub, 1) (List.mem_of_getElem? (i := 45) rfl)) ?_
        obtain ⟨hr9, hM⟩ := hM
        refine sk_nm (fun v6_68 ev6_68 => ?_)
        have hM := hM v6_68 ev6_68
        have hr_v6_68 : rI v6_68 := by rw [ev6_68]; exact hr9
        refine lv_istore (lv' := [(6, .int (iI v6_68)), (5, .int (iI v5_47)), (4, .int (iI v4_31)), (0, .ref (sk_ad G 158)), (1, .int (iI v1)), (2, .int (iI v2)), (3, .int (iI v3))]) hx hb (okX12_enters (68, .istore 6, 2) (List.mem_of_getElem? (i := 46) rfl)) hl (by decide) rfl (fun ls hl => ?_)
        refine lv_aload_n hx hb (okX12_enters (70, .aload_n 0, 1) (List.mem_of_getElem? (i := 47) rfl)) rfl (lv_at hl 3 rfl) ?_
        refine lv_iload_n hx hb (okX12_enters (71, .iload_n 1, 1) (List.mem_of_getElem? (i := 48) rfl)) rfl (lv_at hl 4 rfl) ?_
        refine lv_iload_n hx hb (okX12_enters (72, .iload_n 3, 1) (List.mem_of_getElem? (i := 49) rfl)) rfl (lv_at hl 6 rfl) ?_
        refine lv_iconst (v := iI 1) hx hb (okX12_enters (73, .iconst 1, 1) (List.mem_of_getElem? (i := 50) rfl)) rfl ?_
        refine sk_iadd hx hb (okX12_enters (74, .iadd, 1) (List.mem_of_getElem? (i := 51) rfl)) ?_
        refine lv_iload_n hx hb (okX12_enters (75, .iload_n 2, 1) (List.mem_of_getElem? (i := 52) rfl)) rfl (lv_at hl 5 rfl) ?_
        refine sk_ci (sk_runV (a := 158) (C := RX12) (As := [.int (iI v1), .int (iI (v3 + 1)), .int (iI v2)]) (rest := []) S (c_Mo_placeY l G hr_v1 hr7 hr_v2 hM) sk_blind gX12_enters_X12_placeY rfl hdX12_placeY ⟨⟨rfl, rfl⟩, Nat.le_of_ble_eq_true rfl, Nat.le_of_ble_eq_true rfl⟩ (sk_recv hK hw kdn_158 (kd_in kdn_158) (by decide) rfl) (sk_pre hK hw) rfl hl.1 rfl (Nat.le_of_ble_eq_true rfl) (okX12_enters (76, .invokevirtual 226, 3) (List.mem_of_getElem? (i := 53) rfl)) ⟨Nat.zero_le _, Nat.zero_le _⟩) hw (fun r_76 I_76 H locs hr_r_76 hM hw => ?_)
        refine lv_iload_n hx hb (okX12_enters (79, .iload_n 2, 1) (List.mem_of_getElem? (i := 54) rfl)) rfl (lv_at hl 5 rfl) ?_
        refine lv_aload_n hx hb (okX12_enters (80, .aload_n 0, 1) (List.mem_of_getElem? (i := 55) rfl)) rfl (lv_at hl 3 rfl) ?_
        have hr10 := hw.1.2.2 158 12
        refine sk_geti S hK hw kdn_158 (kd_in kdn_158) (C := RX12) (T := TX12) (N := 53) rfl hI12 12 ⟨by decide, rfl, by decide, rfl⟩ rfl (k' := 12) rfl hL2 (okX12_enters (81, .getfield 213, 3) (List.mem_of_getElem? (i := 56) rfl)) ?_
        refine sk_imul hx hb (okX12_enters (84, .imul, 1) (List.mem_of_getElem? (i := 57) rfl)) ?_
        refine sk_isub hx hb (okX12_enters (85, .isub, 1) (List.mem_of_getElem? (i := 58) rfl)) ?_
        refine lv_iload hx hb (okX12_enters (86, .iload 5, 2) (List.mem_of_getElem? (i := 59) rfl)) (lv_at hl 1 rfl) ?_
        refine sk_isub hx hb (okX12_enters (88, .isub, 1) (List.mem_of_getElem? (i := 60) rfl)) ?_
        obtain ⟨hr11, hM⟩ := hM
        refine sk_nm (fun v7_89 ev7_89 => ?_)
        have hM := hM v7_89 ev7_89
        have hr_v7_89 : rI v7_89 := by rw [ev7_89]; exact hr11
        refine lv_istore (lv' := [(7, .int (iI v7_89)), (6, .int (iI v6_68)), (5, .int (iI v5_47)), (4, .int (iI v4_31)), (0, .ref (sk_ad G 158)), (1, .int (iI v1)), (2, .int (iI v2)), (3, .int (iI v3))]) hx hb (okX12_enters (89, .istore 7, 2) (List.mem_of_getElem? (i := 61) rfl)) hl (by decide) rfl (fun ls hl => ?_)
        refine lv_iload hx hb (okX12_enters (91, .iload 4, 2) (List.mem_of_getElem? (i := 62) rfl)) (lv_at hl 3 rfl) ?_
        refine sk_i2l hx hb hr_v4_31 (okX12_enters (93, .i2l, 1) (List.mem_of_getElem? (i := 63) rfl)) ?_
        refine lv_iload hx hb (okX12_enters (94, .iload 5, 2) (List.mem_of_getElem? (i := 64) rfl)) (lv_at hl 2 rfl) ?_
        refine sk_i2l hx hb hr_v5_47 (okX12_enters (96, .i2l, 1) (List.mem_of_getElem? (i := 65) rfl)) ?_
        refine lv_lconst (v := lI 0) hx hb (okX12_enters (97, .lconst 0, 1) (List.mem_of_getElem? (i := 66) rfl)) (by decide +kernel) ?_
        refine lv_iload hx hb (okX12_enters (98, .iload 6, 2) (List.mem_of_getElem? (i := 67) rfl)) (lv_at hl 1 rfl) ?_
        refine sk_i2l hx hb hr_v6_68 (okX12_enters (100, .i2l, 1) (List.mem_of_getElem? (i := 68) rfl)) ?_
        refine lv_iload hx hb (okX12_enters (101, .iload 7, 2) (List.mem_of_getElem? (i := 69) rfl)) (lv_at hl 0 rfl) ?_
        refine sk_i2l hx hb hr_v7_89 (okX12_enters (103, .i2l, 1) (List.mem_of_getElem? (i := 70) rfl)) ?_
        refine lv_lconst (v := lI 0) hx hb (okX12_enters (104, .lconst 0, 1) (List.mem_of_getElem? (i := 71) rfl)) (by decide +kernel) ?_
        refine lv_lconst (v := lI 1) hx hb (okX12_enters (105, .lconst 1, 1) (List.mem_of_getElem? (i := 72) rfl)) (by decide +kernel) ?_
        refine lv_aload_n hx hb (okX12_enters (106, .aload_n 0, 1) (List.mem_of_getElem? (i := 73) rfl)) rfl (lv_at hl 4 rfl) ?_
        have hr12 := hw.1.2.2 158 13
        refine sk_geti S hK hw kdn_158 (kd_in kdn_158) (C := RX12) (T := TX12) (N := 53) rfl hI12 13 ⟨by decide, rfl, by decide, rfl⟩ rfl (k' := 13) rfl hL0 (okX12_enters (107, .getfield 216, 3) (List.mem_of_getElem? (i := 74) rfl)) ?_
        refine sk_i2l hx hb hr12 (okX12_enters (110, .i2l, 1) (List.mem_of_getElem? (i := 75) rfl)) ?_
        refine lv_iload_n hx hb (okX12_enters (111, .iload_n 2, 1) (List.mem_of_getElem? (i := 76) rfl)) rfl (lv_at hl 6 rfl) ?_
        refine sk_i2l hx hb hr_v2 (okX12_enters (112, .i2l, 1) (List.mem_of_getElem? (i := 77) rfl)) ?_
        refine sk_lmul hx hb (okX12_enters (113, .lmul, 1) (List.mem_of_getElem? (i := 78) rfl)) ?_
        obtain ⟨hr13, hM⟩ := hM
        refine sk_ci (sk_runS (As := [.long (lI v4_31), .long (lI v5_47), .long (lI 0), .long (lI v6_68), .long (lI v7_89), .long (lI 0), .long (lI 1), .long (lI ((I_76 158 13) * v2))]) (rest := []) S (c_Mo_isNear l G ⟨Int.le_trans (by decide) (hr_v4_31).1, Int.lt_trans (hr_v4_31).2 (by decide)⟩ ⟨Int.le_trans (by decide) (hr_v5_47).1, Int.lt_trans (hr_v5_47).2 (by decide)⟩ (by decide) ⟨Int.le_trans (by decide) (hr_v6_68).1, Int.lt_trans (hr_v6_68).2 (by decide)⟩ ⟨Int.le_trans (by decide) (hr_v7_89).1, Int.lt_trans (hr_v7_89).2 (by decide)⟩ (by decide) (by decide) hr13 hM) sk_blind gX12_enters_X12_isNear rfl hdX12_isNear ⟨⟨rfl, rfl⟩, Nat.le_of_ble_eq_true rfl, Nat.le_of_ble_eq_true rfl⟩ (sk_pre hK hw) rfl hl.1 rfl (Nat.le_of_ble_eq_true rfl) (okX12_enters (114, .invokestatic 232, 3) (List.mem_of_getElem? (i := 79) rfl)) ⟨Nat.zero_le _, Nat.zero_le _⟩) hw (fun r_114 I_114 H locs hr_r_114 hM hw => ?_)
        obtain ⟨hb_r_114, hM⟩ := hM
        refine sk_if_eq (tgt := 122) hx hb hr_r_114 (okX12_enters (117, .ifCond .eq 5, 3) (List.mem_of_getElem? (i := 80) rfl)) (by decide) (fun c117 => ?_) (fun c117 => ?_)
        · have hM := hM.1 c117
          obtain ⟨v3_122, ev3_122⟩ : ∃ y : Int, y = v3 + 1 := ⟨_, rfl⟩
          have hM := hM v3_122 ev3_122
          have hr_v3_122 : rI v3_122 := by rw [ev3_122]; exact hr7
          refine lv_iinc (v := iI v3_122) (lv' := [(3, .int (iI v3_122)), (7, .int (iI v7_89)), (6, .int (iI v6_68)), (5, .int (iI v5_47)), (4, .int (iI v4_31)), (0, .ref (sk_ad G 158)), (1, .int (iI v1)), (2, .int (iI v2))]) hx hb (okX12_enters (122, .iinc 3 1, 3) (List.mem_of_getElem? (i := 83) rfl)) hl (k := 7) rfl (by rw [ev3_122]; exact iI_add _ _) (by decide) rfl (fun ls hl => ?_)
          refine lv_goto (tgt := 2) hx hb (okX12_enters (125, .goto (-123), 3) (List.mem_of_getElem? (i := 84) rfl)) (by decide) ?_
          exact (hX_2 v3_122 I_114).1 hM hr_v3_122 H locs ls hw (lv_sub hl [5, 6, 7, 0] rfl)
        · have hM := hM.2 c117
          refine lv_iconst (v := iI 1) hx hb (okX12_enters (120, .iconst 1, 1) (List.mem_of_getElem? (i := 81) rfl)) rfl ?_
          exact sk_zret hx hb hr0 hlocks hK hw (Or.inr rfl) hM (okX12_enters (121, .ireturn, 1) (List.mem_of_getElem? (i := 82) rfl))
  unfold M_Mo_enters at hM
  intro H locs hw
  refine lv_iconst (v := iI 0) hx hb (okX12_enters (0, .iconst 0, 1) (List.mem_of_getElem? (i := 0) rfl)) rfl ?_
  refine lv_istore_n (lv' := [(3, .int (iI 0)), (0, .ref (sk_ad G 158)), (1, .int (iI p1)), (2, .int (iI p2))]) hx hb (okX12_enters (1, .istore_n 3, 1) (List.mem_of_getElem? (i := 1) rfl)) rfl hl (by decide) rfl (fun ls hl => ?_)
  exact hJ_2 p1 p2 0 I hr_p1 hr_p2 (by decide) hM H locs ls hw (lv_sub hl [1, 2, 3, 0] rfl)
