def rmX11_clash : Room := { frames := 4, cells := 0, slots := 0, locals := 234 }
set_option maxHeartbeats 4000000 in
set_option maxRecDepth 100000 in
theorem c_Sky_clash (l : Launch) (G : sk_G) {p1 p2 : Int} (hr_p1 : rI p1) (hr_p2 : rI p2) {Q : Int → sk_S → Prop} {I : sk_S} (hM : M_Sky_clash p1 p2 Q I) : Met l yX11_clash wsX11_clash rmX11_clash (va_Pc [.ref (sk_ad G 0), .int (iI p1), .int (iI p2)] (sk_U G 198 sk_t I)) (sk_Qi G 198 sk_t Q) 0 0 (sk_A G) := by
  refine Met.ofW (cc := cX11_clash) (maxL := 3) (ret := (some .int)) (by decide) rfl ?_
  intro p e s m args below meth c s₁ B hml hv
  obtain ⟨rfl, hU, hK⟩ := hv
  have hx := B.exec
  have hb := B.bytes
  have hr0 := B.returns
  have hts := atoms_spec (ws := wsX11_clash) B.pre
  have hown : s.vm.findClass RX11 = some m.cls := findClass_of_methodNamed B.named
  have hlocks := B.notSynchronized
  have S : CallFix p m c cX11_clash 3 s ([.ref (sk_ad G 0), .int (iI p1), .int (iI p2)].toArray) wsX11_clash RX11 := ⟨hx, hb, hml, hown, hts⟩
  have hL0 := hts (.fieldLink RX11 40 "SkyLights" "latest" "LSkyLights$Pass;") (by decide +kernel)
  have hL1 := hts (.fieldLink RX11 26 "SkyLights" "air" "LSkyLights$Air;") (by decide +kernel)
  have hI0 : ∀ w ∈ u_ws RX0 TX0 4, w ∈ wsX11_clash := by decide +kernel
  have hI11 : ∀ w ∈ u_ws RX11 TX11 8, w ∈ wsX11_clash := by decide +kernel
  have hw : sk_W G 198 sk_t I s s.heap [] := ⟨hU, va_S.rf⟩
  have hl := lv_entry ([.ref (sk_ad G 0), .int (iI p1), .int (iI p2)]) (n := 3) (Nat.le_of_ble_eq_true rfl)
  rw [lg_entry_eq]
  generalize (lg_sl ([.ref (sk_ad G 0), .int (iI p1), .int (iI p2)]) ++ List.replicate (3 - (lg_sl ([.ref (sk_ad G 0), .int (iI p1), .int (iI p2)])).length) Slot.unset).toArray = ls at hl ⊢
  have hl : lv_has ls 3 [(0, .ref (sk_ad G 0)), (1, .int (iI p1)), (2, .int (iI p2))] := hl
  suffices hgo : ∀ (H : Heap) (locs : List Loc), sk_W G 198 sk_t I s H locs → W p l e (headSpec wsX11_clash rmX11_clash).room s m ([.ref (sk_ad G 0), .int (iI p1), .int (iI p2)].toArray) below meth c H locs 0 0 (MQ below (sk_Qi G 198 sk_t Q) ([.ref (sk_ad G 0), .int (iI p1), .int (iI p2)].toArray) s 0 0 (sk_A G)) (F0 m 0 ls []) from hgo _ _ hw
  unfold M_Sky_clash at hM
  intro H locs hw
  refine lv_aload_n hx hb (okX11_clash (0, .aload_n 0, 1) (List.mem_of_getElem? (i := 0) rfl)) rfl (lv_at hl 0 rfl) ?_
  refine sk_getr (b := 44) S hK hw kdn_0 (kd_in kdn_0) (C := RX11) (T := TX11) (N := 8) rfl hI11 4 ⟨by decide, rfl, by decide, rfl⟩ rfl (k' := 4) rfl rfl (by decide +kernel) hL0 (okX11_clash (1, .getfield 40, 3) (List.mem_of_getElem? (i := 1) rfl)) ?_
  refine lv_iload_n hx hb (okX11_clash (4, .iload_n 1, 1) (List.mem_of_getElem? (i := 2) rfl)) rfl (lv_at hl 1 rfl) ?_
  refine sk_ci (sk_runV (a := 44) (C := RX4) (As := [.int (iI p1)]) (rest := []) S (c_Pass_has l G kdn_44 hr_p1 hM) sk_blind gX11_clash_X4_has rfl hdX4_has ⟨⟨rfl, rfl⟩, Nat.le_of_ble_eq_true rfl, Nat.le_of_ble_eq_true rfl⟩ (sk_recv hK hw kdn_44 (kd_in kdn_44) (by decide) rfl) (sk_pre hK hw) rfl hl.1 rfl (Nat.le_of_ble_eq_true rfl) (okX11_clash (5, .invokevirtual 154, 3) (List.mem_of_getElem? (i := 3) rfl)) ⟨Nat.zero_le _, Nat.zero_le _⟩) hw (fun r_5 I_5 H locs hr_r_5 hM hw => ?_)
  obtain ⟨hb_r_5, hM⟩ := hM
  refine sk_if_eq (tgt := 22) hx hb hr_r_5 (okX11_clash (8, .ifCond .eq 14, 3) (List.mem_of_getElem? (i := 4) rfl)) (by decide) (fun c8 => ?_) (fun c8 => ?_)
  · have hM := hM.1 c8
    refine lv_iconst (v := iI (-1)) hx hb (okX11_clash (22, .iconst (-1), 1) (List.mem_of_getElem? (i := 10) rfl)) rfl ?_
    exact sk_iret hx hb hr0 hlocks hK hw (by decide) hM (okX11_clash (23, .ireturn, 1) (List.mem_of_getElem? (i := 11) rfl))
  · have hM := hM.2 c8
    refine lv_aload_n hx hb (okX11_clash (11, .aload_n 0, 1) (List.mem_of_getElem? (i := 5) rfl)) rfl (lv_at hl 0 rfl) ?_
    refine sk_getr (b := 44) S hK hw kdn_0 (kd_in kdn_0) (C := RX11) (T := TX11) (N := 8) rfl hI11 4 ⟨by decide, rfl, by decide, rfl⟩ rfl (k' := 4) rfl rfl (by decide +kernel) hL0 (okX11_clash (12, .getfield 40, 3) (List.mem_of_getElem? (i := 6) rfl)) ?_
    refine lv_iload_n hx hb (okX11_clash (15, .iload_n 2, 1) (List.mem_of_getElem? (i := 7) rfl)) rfl (lv_at hl 2 rfl) ?_
    refine sk_ci (sk_runV (a := 44) (C := RX4) (As := [.int (iI p2)]) (rest := []) S (c_Pass_has l G kdn_44 hr_p2 hM) sk_blind gX11_clash_X4_has rfl hdX4_has ⟨⟨rfl, rfl⟩, Nat.le_of_ble_eq_true rfl, Nat.le_of_ble_eq_true rfl⟩ (sk_recv hK hw kdn_44 (kd_in kdn_44) (by decide) rfl) (sk_pre hK hw) rfl hl.1 rfl (Nat.le_of_ble_eq_true rfl) (okX11_clash (16, .invokevirtual 154, 3) (List.mem_of_getElem? (i := 8) rfl)) ⟨Nat.zero_le _, Nat.zero_le _⟩) hw (fun r_16 I_16 H locs hr_r_16 hM hw => ?_)
    obtain ⟨hb_r_16, hM⟩ := hM
    refine sk_if_ne (tgt := 24) hx hb hr_r_16 (okX11_clash (19, .ifCond .ne 5, 3) (List.mem_of_getElem? (i := 9) rfl)) (by decide) (fun c19 => ?_) (fun c19 => ?_)
    · have hM := hM.1 c19
      refine lv_iload_n hx hb (okX11_clash (24, .iload_n 1, 1) (List.mem_of_getElem? (i := 12) rfl)) rfl (lv_at hl 1 rfl) ?_
      refine lv_iload_n hx hb (okX11_clash (25, .iload_n 2, 1) (List.mem_of_getElem? (i := 13) rfl)) rfl (lv_at hl 2 rfl) ?_
      refine sk_icmp_ne (tgt := 32) hx hb hr_p1 hr_p2 (okX11_clash (26, .if_icmp .ne 6, 3) (List.mem_of_getElem? (i := 14) rfl)) (by decide) (fun c26 => ?_) (fun c26 => ?_)
      · have hM := hM.1 c26
        refine lv_aload_n hx hb (okX11_clash (32, .aload_n 0, 1) (List.mem_of_getElem? (i := 17) rfl)) rfl (lv_at hl 0 rfl) ?_
        refine sk_getr (b := 44) S hK hw kdn_0 (kd_in kdn_0) (C := RX11) (T := TX11) (N := 8) rfl hI11 4 ⟨by decide, rfl, by decide, rfl⟩ rfl (k' := 4) rfl rfl (by decide +kernel) hL0 (okX11_clash (33, .getfield 40, 3) (List.mem_of_getElem? (i := 18) rfl)) ?_
        refine lv_iload_n hx hb (okX11_clash (36, .iload_n 1, 1) (List.mem_of_getElem? (i := 19) rfl)) rfl (lv_at hl 1 rfl) ?_
        refine lv_iload_n hx hb (okX11_clash (37, .iload_n 2, 1) (List.mem_of_getElem? (i := 20) rfl)) rfl (lv_at hl 2 rfl) ?_
        refine lv_aload_n hx hb (okX11_clash (38, .aload_n 0, 1) (List.mem_of_getElem? (i := 21) rfl)) rfl (lv_at hl 0 rfl) ?_
        refine sk_getr (b := 44) S hK hw kdn_0 (kd_in kdn_0) (C := RX11) (T := TX11) (N := 8) rfl hI11 4 ⟨by decide, rfl, by decide, rfl⟩ rfl (k' := 4) rfl rfl (by decide +kernel) hL0 (okX11_clash (39, .getfield 40, 3) (List.mem_of_getElem? (i := 22) rfl)) ?_
        refine lv_iload_n hx hb (okX11_clash (42, .iload_n 2, 1) (List.mem_of_getElem? (i := 23) rfl)) rfl (lv_at hl 2 rfl) ?_
        refine sk_ci (sk_runV (a := 44) (C := RX4) (As := [.int (iI p2)]) (rest := [.int (iI p2), .int (iI p1), .ref (sk_ad G 44)]) S (c_Pass_delayOf l G kdn_44 hr_p2 hM) sk_blind gX11_clash_X4_delayOf rfl hdX4_delayOf ⟨⟨rfl, rfl⟩, Nat.le_of_ble_eq_true rfl, Nat.le_of_ble_eq_true rfl⟩ (sk_recv hK hw kdn_44 (kd_in kdn_44) (by decide) rfl) (sk_pre hK hw) rfl hl.1 rfl (Nat.le_of_ble_eq_true rfl) (okX11_clash (43, .invokevirtual 159, 3) (List.mem_of_getElem? (i := 24) rfl)) ⟨Nat.zero_le _, Nat.zero_le _⟩) hw (fun r_43 I_43 H locs hr_r_43 hM hw => ?_)
        refine lv_aload_n hx hb (okX11_clash (46, .aload_n 0, 1) (List.mem_of_getElem? (i := 25) rfl)) rfl (lv_at hl 0 rfl) ?_
        refine sk_getr (b := 44) S hK hw kdn_0 (kd_in kdn_0) (C := RX11) (T := TX11) (N := 8) rfl hI11 4 ⟨by decide, rfl, by decide, rfl⟩ rfl (k' := 4) rfl rfl (by decide +kernel) hL0 (okX11_clash (47, .getfield 40, 3) (List.mem_of_getElem? (i := 26) rfl)) ?_
        refine lv_iload_n hx hb (okX11_clash (50, .iload_n 1, 1) (List.mem_of_getElem? (i := 27) rfl)) rfl (lv_at hl 1 rfl) ?_
        refine sk_ci (sk_runV (a := 44) (C := RX4) (As := [.int (iI p1)]) (rest := [.int (iI r_43), .int (iI p2), .int (iI p1), .ref (sk_ad G 44)]) S (c_Pass_delayOf l G kdn_44 hr_p1 hM) sk_blind gX11_clash_X4_delayOf rfl hdX4_delayOf ⟨⟨rfl, rfl⟩, Nat.le_of_ble_eq_true rfl, Nat.le_of_ble_eq_true rfl⟩ (sk_recv hK hw kdn_44 (kd_in kdn_44) (by decide) rfl) (sk_pre hK hw) rfl hl.1 rfl (Nat.le_of_ble_eq_true rfl) (okX11_clash (51, .invokevirtual 159, 3) (List.mem_of_getElem? (i := 28) rfl)) ⟨Nat.zero_le _, Nat.zero_le _⟩) hw (fun r_51 I_51 H locs hr_r_51 hM hw => ?_)
        refine sk_isub hx hb (okX11_clash (54, .isub, 1) (List.mem_of_getElem? (i := 29) rfl)) ?_
        refine lv_aload_n hx hb (okX11_clash (55, .aload_n 0, 1) (List.mem_of_getElem? (i := 30) rfl)) rfl (lv_at hl 0 rfl) ?_
        refine sk_getr (b := 36) S hK hw kdn_0 (kd_in kdn_0) (C := RX11) (T := TX11) (N := 8) rfl hI11 2 ⟨by decide, rfl, by decide, rfl⟩ rfl (k' := 2) rfl rfl (by decide +kernel) hL1 (okX11_clash (56, .getfield 26, 3) (List.mem_of_getElem? (i := 31) rfl)) ?_
        have hr1 := hw.1.2.2 36 0
        refine sk_getiN S hK hw kdn_36 (kd_in kdn_36) (C := RX0) (T := TX0) (N := 4) rfl hI0 0 ⟨by decide, rfl, by decide, rfl⟩ rfl (k' := 0) rfl (va_Nw.use rfl (hK.2.1 ("SkyLights", 134, "SkyLights$Air", "gap", "I") (by decide +kernel))) (okX11_clash (59, .getfield 134, 3) (List.mem_of_getElem? (i := 32) rfl)) ?_
        obtain ⟨hr2, hM⟩ := hM
        refine sk_ci (sk_runV (a := 44) (C := RX4) (As := [.int (iI p1), .int (iI p2), .int (iI (r_43 - r_51)), .int (iI (I_51 36 0))]) (rest := []) S (c_Pass_meet l G kdn_44 hr_p1 hr_p2 hr2 hr1 hM) sk_blind gX11_clash_X4_meet rfl hdX4_meet ⟨⟨rfl, rfl⟩, Nat.le_of_ble_eq_true rfl, Nat.le_of_ble_eq_true rfl⟩ (sk_recv hK hw kdn_44 (kd_in kdn_44) (by decide) rfl) (sk_pre hK hw) rfl hl.1 rfl (Nat.le_of_ble_eq_true rfl) (okX11_clash (62, .invokevirtual 165, 3) (List.mem_of_getElem? (i := 33) rfl)) ⟨Nat.zero_le _, Nat.zero_le _⟩) hw (fun r_62 I_62 H locs hr_r_62 hM hw => ?_)
        obtain ⟨hb_r_62, hM⟩ := hM
        refine sk_ci (sk_runS (As := [.int (iI r_62)]) (rest := []) S (c_Sky_bit l G hr_r_62 hM) sk_blind gX11_clash_X11_bit rfl hdX11_bit ⟨⟨rfl, rfl⟩, Nat.le_of_ble_eq_true rfl, Nat.le_of_ble_eq_true rfl⟩ (sk_pre hK hw) rfl hl.1 rfl (Nat.le_of_ble_eq_true rfl) (okX11_clash (65, .invokestatic 122, 3) (List.mem_of_getElem? (i := 34) rfl)) ⟨Nat.zero_le _, Nat.zero_le _⟩) hw (fun r_65 I_65 H locs hr_r_65 hM hw => ?_)
        exact sk_iret hx hb hr0 hlocks hK hw hr_r_65 hM (okX11_clash (68, .ireturn, 1) (List.mem_of_getElem? (i := 35) rfl))
      · have hM := hM.2 c26
        refine lv_bipush (v := iI (-2)) hx hb (okX11_clash (29, .bipush (-2), 2) (List.mem_of_getElem? (i := 15) rfl)) (by decide +kernel) ?_
        exact sk_iret hx hb hr0 hlocks hK hw (by decide) hM (okX11_clash (31, .ireturn, 1) (List.mem_of_getElem? (i := 16) rfl))
    · have hM := hM.2 c19
      refine lv_iconst (v := iI (-1)) hx hb (okX11_clash (22, .iconst (-1), 1) (List.mem_of_getElem? (i := 10) rfl)) rfl ?_
      exact sk_iret hx hb hr0 hlocks hK hw (by decide) hM (okX11_clash (23, .ireturn, 1) (List.mem_of_getElem? (i := 11) rfl))
def rmX11_clean : Room := { frames := 5, cells := 0, slots := 0, locals := 302 }
set_option maxHeartbeats 4000000 in
set_option maxRecDepth 100000 in
theorem c_Sky_clean (l : Launch) (G : sk_G) {Q : Int → sk_S → Prop} {I : sk_S} (hM : M_Sky_clean Q I) : Met l yX11_clean wsX11_clean rmX11_clean (va_Pc [.ref (sk_ad G 0)] (sk_U G 198 sk_t I)) (sk_Qi G 198 sk_t Q) 0 0 (sk_A G) := by
  refine Met.ofW (cc := cX11_clean) (maxL := 1) (ret := (some .int)) (by decide) rfl ?_
  intro p e s m args below meth c s₁ B hml hv
  obtain ⟨rfl, hU, hK⟩ := hv
  have hx := B.exec
  have hb := B.bytes
  have hr0 := B.returns
  have hts := atoms_spec (ws := wsX11_clean) B.pre
  have hown : s.vm.findClass RX11 = some m.cls := findClass_of_methodNamed B.named
  have hlocks := B.notSynchronized
  have S : CallFix p m c cX11_clean 1 s ([.ref (sk_ad G 0)].toArray) wsX11_clean RX11 := ⟨hx, hb, hml, hown, hts⟩
  have hL0 := hts (.fieldLink RX11 40 "SkyLights" "latest" "LSkyLights$Pass;") (by decide +kernel)
  have hL1 := hts (.fieldLink RX11 26 "SkyLights" "air" "LSkyLights$Air;") (by decide +kernel)
  have hI11 : ∀ w ∈ u_ws RX11 TX11 8, w ∈ wsX11_clean := by decide +kernel
  have hw : sk_W G 198 sk_t I s s.heap [] := ⟨hU, va_S.rf⟩
  have hl := lv_entry ([.ref (sk_ad G 0)]) (n := 1) (Nat.le_of_ble_eq_true rfl)
  rw [lg_entry_eq]
  generalize (lg_sl ([.ref (sk_ad G 0)]) ++ List.replicate (1 - (lg_sl ([.ref (sk_ad G 0)])).length) Slot.unset).toArray = ls at hl ⊢
  have hl : lv_has ls 1 [(0, .ref (sk_ad G 0))] := hl
  suffices hgo : ∀ (H : Heap) (locs : List Loc), sk_W G 198 sk_t I s H locs → W p l e (headSpec wsX11_clean rmX11_clean).room s m ([.ref (sk_ad G 0)].toArray) below meth c H locs 0 0 (MQ below (sk_Qi G 198 sk_t Q) ([.ref (sk_ad G 0)].toArray) s 0 0 (sk_A G)) (F0 m 0 ls []) from hgo _ _ hw
  unfold M_Sky_clean at hM
  intro H locs hw
  refine lv_aload_n hx hb (okX11_clean (0, .aload_n 0, 1) (List.mem_of_getElem? (i := 0) rfl)) rfl (lv_at hl 0 rfl) ?_
  refine sk_getr (b := 44) S hK hw kdn_0 (kd_in kdn_0) (C := RX11) (T := TX11) (N := 8) rfl hI11 4 ⟨by decide, rfl, by decide, rfl⟩ rfl (k' := 4) rfl rfl (by decide +kernel) hL0 (okX11_clean (1, .getfield 40, 3) (List.mem_of_getElem? (i := 1) rfl)) ?_
  refine sk_ci (sk_runV (a := 44) (C := RX4) (As := []) (rest := []) S (c_Pass_size l G kdn_44 hM) sk_blind gX11_clean_X4_size rfl hdX4_size ⟨⟨rfl, rfl⟩, Nat.le_of_ble_eq_true rfl, Nat.le_of_ble_eq_true rfl⟩ (sk_recv hK hw kdn_44 (kd_in kdn_44) (by decide) rfl) (sk_pre hK hw) rfl hl.1 rfl (Nat.le_of_ble_eq_true rfl) (okX11_clean (4, .invokevirtual 173, 3) (List.mem_of_getElem? (i := 2) rfl)) ⟨Nat.zero_le _, Nat.zero_le _⟩) hw (fun r_4 I_4 H locs hr_r_4 hM hw => ?_)
  refine sk_if_le (tgt := 27) hx hb hr_r_4 (okX11_clean (7, .ifCond .le 20, 3) (List.mem_of_getElem? (i := 3) rfl)) (by decide) (fun c7 => ?_) (fun c7 => ?_)
  · have hM := hM.1 c7
    refine lv_bipush (v := iI (-3)) hx hb (okX11_clean (27, .bipush (-3), 2) (List.mem_of_getElem? (i := 11) rfl)) (by decide +kernel) ?_
    exact sk_iret hx hb hr0 hlocks hK hw (by decide) hM (okX11_clean (29, .ireturn, 1) (List.mem_of_getElem? (i := 12) rfl))
  · have hM := hM.2 c7
    refine lv_aload_n hx hb (okX11_clean (10, .aload_n 0, 1) (List.mem_of_getElem? (i := 4) rfl)) rfl (lv_at hl 0 rfl) ?_
    refine sk_getr (b := 44) S hK hw kdn_0 (kd_in kdn_0) (C := RX11) (T := TX11) (N := 8) rfl hI11 4 ⟨by decide, rfl, by decide, rfl⟩ rfl (k' := 4) rfl rfl (by decide +kernel) hL0 (okX11_clean (11, .getfield 40, 3) (List.mem_of_getElem? (i := 5) rfl)) ?_
    refine lv_aload_n hx hb (okX11_clean (14, .aload_n 0, 1) (List.mem_of_getElem? (i := 6) rfl)) rfl (lv_at hl 0 rfl) ?_
    refine sk_getr (b := 36) S hK hw kdn_0 (kd_in kdn_0) (C := RX11) (T := TX11) (N := 8) rfl hI11 2 ⟨by decide, rfl, by decide, rfl⟩ rfl (k' := 2) rfl rfl (by decide +kernel) hL1 (okX11_clean (15, .getfield 26, 3) (List.mem_of_getElem? (i := 7) rfl)) ?_
    refine sk_ci (sk_runV (a := 44) (C := RX4) (As := [.ref (sk_ad G 36)]) (rest := []) S (c_Pass_isClean l G kdn_44 hM) sk_blind gX11_clean_X4_isClean rfl hdX4_isClean ⟨⟨rfl, rfl⟩, Nat.le_of_ble_eq_true rfl, Nat.le_of_ble_eq_true rfl⟩ (sk_recv hK hw kdn_44 (kd_in kdn_44) (by decide) rfl) (sk_pre hK hw) rfl hl.1 rfl (Nat.le_of_ble_eq_true rfl) (okX11_clean (18, .invokevirtual 174, 3) (List.mem_of_getElem? (i := 8) rfl)) ⟨Nat.zero_le _, Nat.zero_le _⟩) hw (fun r_18 I_18 H locs hr_r_18 hM hw => ?_)
    obtain ⟨hb_r_18, hM⟩ := hM
    refine sk_ci (sk_runS (As := [.int (iI r_18)]) (rest := []) S (c_Sky_bit l G hr_r_18 hM) sk_blind gX11_clean_X11_bit rfl hdX11_bit ⟨⟨rfl, rfl⟩, Nat.le_of_ble_eq_true rfl, Nat.le_of_ble_eq_true rfl⟩ (sk_pre hK hw) rfl hl.1 rfl (Nat.le_of_ble_eq_true rfl) (okX11_clean (21, .invokestatic 122, 3) (List.mem_of_getElem? (i := 9) rfl)) ⟨Nat.zero_le _, Nat.zero_le _⟩) hw (fun r_21 I_21 H locs hr_r_21 hM hw => ?_)
    refine lv_goto (tgt := 29) hx hb (okX11_clean (24, .goto 5, 3) (List.mem_of_getElem? (i := 10) rfl)) (by decide) ?_
    exact sk_iret hx hb hr0 hlocks hK hw hr_r_21 hM (okX11_clean (29, .ireturn, 1) (List.mem_of_getElem? (i := 12) rfl))
def rmX11_isWithin : Room := { frames := 0, cells := 0, slots := 0, locals := 0 }
set_option maxHeartbeats 4000000 in
set_option maxRecDepth 100000 in
theorem c_Sky_isWithin (l : Launch) (G : sk_G) {p0 p1 p2 : Int} (hr_p0 : rI p0) (hr_p1 : rI p1) (hr_p2 : rI p2) {Q : Int → sk_S → Prop} {I : sk_S} (hM : M_Sky_isWithin p0 p1 p2 Q I) : Met l yX11_isWithin wsX11_isWithin rmX11_isWithin (va_Pc [.int (iI p0), .int (iI p1), .int (iI p2)] (sk_U G 198 sk_t I)) (sk_Qz G 198 sk_t Q) 0 0 (sk_A G) := by
  refine Met.ofW (cc := cX11_isWithin) (maxL := 3) (ret := (some .boolean)) (by decide) rfl ?_
  intro p e s m args below meth c s₁ B hml hv
  obtain ⟨rfl, hU, hK⟩ := hv
  have hx := B.exec
  have hb := B.bytes
  have hr0 := B.returns
  have hts := atoms_spec (ws := wsX11_isWithin) B.pre
  have hown : s.vm.findClass RX11 = some m.cls := findClass_of_methodNamed B.named
  have hlocks := B.notSynchronized
  have S : CallFix p m c cX11_isWithin 3 s ([.int (iI p0), .int (iI p1), .int (iI p2)].toArray) wsX11_isWithin RX11 := ⟨hx, hb, hml, hown, hts⟩
  have hw : sk_W G 198 sk_t I s s.heap [] := ⟨hU, va_S.rf⟩
  have hl := lv_entry ([.int (iI p0), .int (iI p1), .int (iI p2)]) (n := 3) (Nat.le_of_ble_eq_true rfl)
  rw [lg_entry_eq]
  generalize (lg_sl ([.int (iI p0), .int (iI p1), .int (iI p2)]) ++ List.replicate (3 - (lg_sl ([.int (iI p0), .int (iI p1), .int (iI p2)])).length) Slot.unset).toArray = ls at hl ⊢
  have hl : lv_has ls 3 [(0, .int (iI p0)), (1, .int (iI p1)), (2, .int (iI p2))] := hl
  suffices hgo : ∀ (H : Heap) (locs : List Loc), sk_W G 198 sk_t I s H locs → W p l e (headSpec wsX11_isWithin rmX11_isWithin).room s m ([.int (iI p0), .int (iI p1), .int (iI p2)].toArray) below meth c H locs 0 0 (MQ below (sk_Qz G 198 sk_t Q) ([.int (iI p0), .int (iI p1), .int (iI p2)].toArray) s 0 0 (sk_A G)) (F0 m 0 ls []) from hgo _ _ hw
  unfold M_Sky_isWithin at hM
  intro H locs hw
  refine lv_iload_n hx hb (okX11_isWithin (0, .iload_n 0, 1) (List.mem_of_getElem? (i := 0) rfl)) rfl (lv_at hl 0 rfl) ?_
  refine lv_iload_n hx hb (okX11_isWithin (1, .iload_n 1, 1) (List.mem_of_getElem? (i := 1) rfl)) rfl (lv_at hl 1 rfl) ?_
  refine sk_icmp_lt (tgt := 14) hx hb hr_p0 hr_p1 (okX11_isWithin (2, .if_icmp .lt 12, 3) (List.mem_of_getElem? (i := 2) rfl)) (by decide) (fun c2 => ?_) (fun c2 => ?_)
  · have hM := hM.1 c2
    refine lv_iconst (v := iI 0) hx hb (okX11_isWithin (14, .iconst 0, 1) (List.mem_of_getElem? (i := 8) rfl)) rfl ?_
    exact sk_zret hx hb hr0 hlocks hK hw (Or.inl rfl) hM (okX11_isWithin (15, .ireturn, 1) (List.mem_of_getElem? (i := 9) rfl))
  · have hM := hM.2 c2
    refine lv_iload_n hx hb (okX11_isWithin (5, .iload_n 0, 1) (List.mem_of_getElem? (i := 3) rfl)) rfl (lv_at hl 0 rfl) ?_
    refine lv_iload_n hx hb (okX11_isWithin (6, .iload_n 2, 1) (List.mem_of_getElem? (i := 4) rfl)) rfl (lv_at hl 2 rfl) ?_
    refine sk_icmp_gt (tgt := 14) hx hb hr_p0 hr_p2 (okX11_isWithin (7, .if_icmp .gt 7, 3) (List.mem_of_getElem? (i := 5) rfl)) (by decide) (fun c7 => ?_) (fun c7 => ?_)
    · have hM := hM.1 c7
      refine lv_iconst (v := iI 0) hx hb (okX11_isWithin (14, .iconst 0, 1) (List.mem_of_getElem? (i := 8) rfl)) rfl ?_
      exact sk_zret hx hb hr0 hlocks hK hw (Or.inl rfl) hM (okX11_isWithin (15, .ireturn, 1) (List.mem_of_getElem? (i := 9) rfl))
    · have hM := hM.2 c7
      refine lv_iconst (v := iI 1) hx hb (okX11_isWithin (10, .iconst 1, 1) (List.mem_of_getElem? (i := 6) rfl)) rfl ?_
      refine lv_goto (tgt := 15) hx hb (okX11_isWithin (11, .goto 4, 3) (List.mem_of_getElem? (i := 7) rfl)) (by decide) ?_
      exact sk_zret hx hb hr0 hlocks hK hw (Or.inr rfl) hM (okX11_isWithin (15, .ireturn, 1) (List.mem_of_getElem? (i := 9) rfl))
def rmX11_colour : Room := { frames := 3, cells := 0, slots := 0, locals := 161 }
set_option maxHeartbeats 4000000 in
set_option maxRecDepth 100000 in
theorem c_Sky_colour (l : Launch) (G : sk_G) {p1 : Int} (hr_p1 : rI p1) {Q : Int → sk_S → Prop} {I : sk_S} (hM : M_Sky_colour p1 Q I) : Met l yX11_colour wsX11_colour rmX11_colour (va_Pc [.ref (sk_ad G 0), .int (iI p1)] (sk_U G 198 sk_t I)) (sk_Qi G 198 sk_t Q) 0 0 (sk_A G) := by
  refine Met.ofW (cc := cX11_colour) (maxL := 2) (ret := (some .int)) (by decide) rfl ?_
  intro p e s m args below meth c s₁ B hml hv
  obtain ⟨rfl, hU, hK⟩ := hv
  have hx := B.exec
  have hb := B.bytes
  have hr0 := B.returns
  have hts := atoms_spec (ws := wsX11_colour) B.pre
  have hown : s.vm.findClass RX11 = some m.cls := findClass_of_methodNamed B.named
  have hlocks := B.notSynchronized
  have S : CallFix p m c cX11_colour 2 s ([.ref (sk_ad G 0), .int (iI p1)].toArray) wsX11_colour RX11 := ⟨hx, hb, hml, hown, hts⟩
  have hL0 := hts (.fieldLink RX11 54 "SkyLights" "show" "LSkyLights$Show;") (by decide +kernel)
  have hI11 : ∀ w ∈ u_ws RX11 TX11 8, w ∈ wsX11_colour := by decide +kernel
  have hw : sk_W G 198 sk_t I s s.heap [] := ⟨hU, va_S.rf⟩
  have hl := lv_entry ([.ref (sk_ad G 0), .int (iI p1)]) (n := 2) (Nat.le_of_ble_eq_true rfl)
  rw [lg_entry_eq]
  generalize (lg_sl ([.ref (sk_ad G 0), .int (iI p1)]) ++ List.replicate (2 - (lg_sl ([.ref (sk_ad G 0), .int (iI p1)])).length) Slot.unset).toArray = ls at hl ⊢
  have hl : lv_has ls 2 [(0, .ref (sk_ad G 0)), (1, .int (iI p1))] := hl
  suffices hgo : ∀ (H : Heap) (locs : List Loc), sk_W G 198 sk_t I s H locs → W p l e (headSpec wsX11_colour rmX11_colour).room s m ([.ref (sk_ad G 0), .int (iI p1)].toArray) below meth c H locs 0 0 (MQ below (sk_Qi G 198 sk_t Q) ([.ref (sk_ad G 0), .int (iI p1)].toArray) s 0 0 (sk_A G)) (F0 m 0 ls []) from hgo _ _ hw
  unfold M_Sky_colour at hM
  intro H locs hw
  refine lv_aload_n hx hb (okX11_colour (0, .aload_n 0, 1) (List.mem_of_getElem? (i := 0) rfl)) rfl (lv_at hl 0 rfl) ?_
  refine sk_getr (b := 54) S hK hw kdn_0 (kd_in kdn_0) (C := RX11) (T := TX11) (N := 8) rfl hI11 6 ⟨by decide, rfl, by decide, rfl⟩ rfl (k' := 6) rfl rfl (by decide +kernel) hL0 (okX11_colour (1, .getfield 54, 3) (List.mem_of_getElem? (i := 1) rfl)) ?_
  refine sk_ci (sk_runV (a := 54) (C := RX9) (As := []) (rest := []) S (c_Show_size l G hM) sk_blind gX11_colour_X9_size rfl hdX9_size ⟨⟨rfl, rfl⟩, Nat.le_of_ble_eq_true rfl, Nat.le_of_ble_eq_true rfl⟩ (sk_recv hK hw kdn_54 (kd_in kdn_54) (by decide) rfl) (sk_pre hK hw) rfl hl.1 rfl (Nat.le_of_ble_eq_true rfl) (okX11_colour (4, .invokevirtual 74, 3) (List.mem_of_getElem? (i := 2) rfl)) ⟨Nat.zero_le _, Nat.zero_le _⟩) hw (fun r_4 I_4 H locs hr_r_4 hM hw => ?_)
  refine sk_if_le (tgt := 36) hx hb hr_r_4 (okX11_colour (7, .ifCond .le 29, 3) (List.mem_of_getElem? (i := 3) rfl)) (by decide) (fun c7 => ?_) (fun c7 => ?_)
  · have hM := hM.1 c7
    refine lv_iconst (v := iI (-1)) hx hb (okX11_colour (36, .iconst (-1), 1) (List.mem_of_getElem? (i := 16) rfl)) rfl ?_
    exact sk_iret hx hb hr0 hlocks hK hw (by decide) hM (okX11_colour (37, .ireturn, 1) (List.mem_of_getElem? (i := 17) rfl))
  · have hM := hM.2 c7
    refine lv_iload_n hx hb (okX11_colour (10, .iload_n 1, 1) (List.mem_of_getElem? (i := 4) rfl)) rfl (lv_at hl 1 rfl) ?_
    refine lv_iconst (v := iI 0) hx hb (okX11_colour (11, .iconst 0, 1) (List.mem_of_getElem? (i := 5) rfl)) rfl ?_
    refine lv_aload_n hx hb (okX11_colour (12, .aload_n 0, 1) (List.mem_of_getElem? (i := 6) rfl)) rfl (lv_at hl 0 rfl) ?_
    refine sk_getr (b := 54) S hK hw kdn_0 (kd_in kdn_0) (C := RX11) (T := TX11) (N := 8) rfl hI11 6 ⟨by decide, rfl, by decide, rfl⟩ rfl (k' := 6) rfl rfl (by decide +kernel) hL0 (okX11_colour (13, .getfield 54, 3) (List.mem_of_getElem? (i := 7) rfl)) ?_
    refine sk_ci (sk_runV (a := 54) (C := RX9) (As := []) (rest := [.int (iI 0), .int (iI p1)]) S (c_Show_ticks l G hM) sk_blind gX11_colour_X9_ticks rfl hdX9_ticks ⟨⟨rfl, rfl⟩, Nat.le_of_ble_eq_true rfl, Nat.le_of_ble_eq_true rfl⟩ (sk_recv hK hw kdn_54 (kd_in kdn_54) (by decide) rfl) (sk_pre hK hw) rfl hl.1 rfl (Nat.le_of_ble_eq_true rfl) (okX11_colour (16, .invokevirtual 219, 3) (List.mem_of_getElem? (i := 8) rfl)) ⟨Nat.zero_le _, Nat.zero_le _⟩) hw (fun r_16 I_16 H locs hr_r_16 hM hw => ?_)
    refine sk_ci (sk_runS (As := [.int (iI p1), .int (iI 0), .int (iI r_16)]) (rest := []) S (c_Sky_isWithin l G hr_p1 (by decide) hr_r_16 hM) sk_blind gX11_colour_X11_isWithin rfl hdX11_isWithin ⟨⟨rfl, rfl⟩, Nat.le_of_ble_eq_true rfl, Nat.le_of_ble_eq_true rfl⟩ (sk_pre hK hw) rfl hl.1 rfl (Nat.le_of_ble_eq_true rfl) (okX11_colour (19, .invokestatic 70, 3) (List.mem_of_getElem? (i := 9) rfl)) ⟨Nat.zero_le _, Nat.zero_le _⟩) hw (fun r_19 I_19 H locs hr_r_19 hM hw => ?_)
    obtain ⟨hb_r_19, hM⟩ := hM
    refine sk_if_eq (tgt := 36) hx hb hr_r_19 (okX11_colour (22, .ifCond .eq 14, 3) (List.mem_of_getElem? (i := 10) rfl)) (by decide) (fun c22 => ?_) (fun c22 => ?_)
    · have hM := hM.1 c22
      refine lv_iconst (v := iI (-1)) hx hb (okX11_colour (36, .iconst (-1), 1) (List.mem_of_getElem? (i := 16) rfl)) rfl ?_
      exact sk_iret hx hb hr0 hlocks hK hw (by decide) hM (okX11_colour (37, .ireturn, 1) (List.mem_of_getElem? (i := 17) rfl))
    · have hM := hM.2 c22
      refine lv_aload_n hx hb (okX11_colour (25, .aload_n 0, 1) (List.mem_of_getElem? (i := 11) rfl)) rfl (lv_at hl 0 rfl) ?_
      refine sk_getr (b := 54) S hK hw kdn_0 (kd_in kdn_0) (C := RX11) (T := TX11) (N := 8) rfl hI11 6 ⟨by decide, rfl, by decide, rfl⟩ rfl (k' := 6) rfl rfl (by decide +kernel) hL0 (okX11_colour (26, .getfield 54, 3) (List.mem_of_getElem? (i := 12) rfl)) ?_
      refine lv_iload_n hx hb (okX11_colour (29, .iload_n 1, 1) (List.mem_of_getElem? (i := 13) rfl)) rfl (lv_at hl 1 rfl) ?_
      refine sk_ci (sk_runV (a := 54) (C := RX9) (As := [.int (iI p1)]) (rest := []) S (c_Show_light l G hr_p1 hM) sk_blind gX11_colour_X9_light rfl hdX9_light ⟨⟨rfl, rfl⟩, Nat.le_of_ble_eq_true rfl, Nat.le_of_ble_eq_true rfl⟩ (sk_recv hK hw kdn_54 (kd_in kdn_54) (by decide) rfl) (sk_pre hK hw) rfl hl.1 rfl (Nat.le_of_ble_eq_true rfl) (okX11_colour (30, .invokevirtual 229, 3) (List.mem_of_getElem? (i := 14) rfl)) ⟨Nat.zero_le _, Nat.zero_le _⟩) hw (fun r_30 I_30 H locs hr_r_30 hM hw => ?_)
      refine lv_goto (tgt := 37) hx hb (okX11_colour (33, .goto 4, 3) (List.mem_of_getElem? (i := 15) rfl)) (by decide) ?_
      exact sk_iret hx hb hr0 hlocks hK hw hr_r_30 hM (okX11_colour (37, .ireturn, 1) (List.mem_of_getElem? (i := 17) rfl))
def rmX11_flyers : Room := { frames := 1, cells := 0, slots := 0, locals := 53 }
set_option maxHeartbeats 4000000 in
set_option maxRecDepth 100000 in
theorem c_Sky_flyers (l : Launch) (G : sk_G) {Q : Int → sk_S → Prop} {I : sk_S} (hM : M_Sky_flyers Q I) : Met l yX11_flyers wsX11_flyers rmX11_flyers (va_Pc [.ref (sk_ad G 0)] (sk_U G 198 sk_t I)) (sk_Qi G 198 sk_t Q) 0 0 (sk_A G) := by
  refine Met.ofW (cc := cX11_flyers) (maxL := 1) (ret := (some .int)) (by decide) rfl ?_
  intro p e s m args below meth c s₁ B hml hv
  obtain ⟨rfl, hU, hK⟩ := hv
  have hx := B.exec
  have hb := B.bytes
  have hr0 := B.returns
  have hts := atoms_spec (ws := wsX11_flyers) B.pre
  have hown : s.vm.findClass RX11 = some m.cls := findClass_of_methodNamed B.named
  have hlocks := B.notSynchronized
  have S : CallFix p m c cX11_flyers 1 s ([.ref (sk_ad G 0)].toArray) wsX11_flyers RX11 := ⟨hx, hb, hml, hown, hts⟩
  have hL0 := hts (.fieldLink RX11 19 "SkyLights" "gallery" "LSkyLights$Gallery;") (by decide +kernel)
  have hI11 : ∀ w ∈ u_ws RX11 TX11 8, w ∈ wsX11_flyers := by decide +kernel
  have hw : sk_W G 198 sk_t I s s.heap [] := ⟨hU, va_S.rf⟩
  have hl := lv_entry ([.ref (sk_ad G 0)]) (n := 1) (Nat.le_of_ble_eq_true rfl)
  rw [lg_entry_eq]
  generalize (lg_sl ([.ref (sk_ad G 0)]) ++ List.replicate (1 - (lg_sl ([.ref (sk_ad G 0)])).length) Slot.unset).toArray = ls at hl ⊢
  have hl : lv_has ls 1 [(0, .ref (sk_ad G 0))] := hl
  suffices hgo : ∀ (H : Heap) (locs : List Loc), sk_W G 198 sk_t I s H locs → W p l e (headSpec wsX11_flyers rmX11_flyers).room s m ([.ref (sk_ad G 0)].toArray) below meth c H locs 0 0 (MQ below (sk_Qi G 198 sk_t Q) ([.ref (sk_ad G 0)].toArray) s 0 0 (sk_A G)) (F0 m 0 ls []) from hgo _ _ hw
  unfold M_Sky_flyers at hM
  intro H locs hw
  refine lv_aload_n hx hb (okX11_flyers (0, .aload_n 0, 1) (List.mem_of_getElem? (i := 0) rfl)) rfl (lv_at hl 0 rfl) ?_
  refine sk_getr (b := 4) S hK hw kdn_0 (kd_in kdn_0) (C := RX11) (T := TX11) (N := 8) rfl hI11 1 ⟨by decide, rfl, by decide, rfl⟩ rfl (k' := 1) rfl rfl (by decide +kernel) hL0 (okX11_flyers (1, .getfield 19, 3) (List.mem_of_getElem? (i := 1) rfl)) ?_
  refine lv_iconst (v := iI (-1)) hx hb (okX11_flyers (4, .iconst (-1), 1) (List.mem_of_getElem? (i := 2) rfl)) rfl ?_
  refine sk_cr (sk_runV (a := 4) (C := RX2) (As := [.int (iI ((-1)))]) (rest := []) S (c_Gallery_at l G (by decide) hM) sk_blind gX11_flyers_X2_at rfl hdX2_at ⟨⟨rfl, rfl⟩, Nat.le_of_ble_eq_true rfl, Nat.le_of_ble_eq_true rfl⟩ (sk_recv hK hw kdn_4 (kd_in kdn_4) (by decide) rfl) (sk_pre hK hw) rfl hl.1 rfl (Nat.le_of_ble_eq_true rfl) (okX11_flyers (5, .invokevirtual 81, 3) (List.mem_of_getElem? (i := 3) rfl)) ⟨Nat.zero_le _, Nat.zero_le _⟩) hw (fun r_5 I_5 H locs hk_r_5 hM hw => ?_)
  refine sk_ci (sk_runV (a := r_5) (C := RX5) (As := []) (rest := []) S (c_Places_size l G hk_r_5 hM) sk_blind gX11_flyers_X5_size rfl hdX5_size ⟨⟨rfl, rfl⟩, Nat.le_of_ble_eq_true rfl, Nat.le_of_ble_eq_true rfl⟩ (sk_recv hK hw hk_r_5 (kd_in hk_r_5) (by decide) rfl) (sk_pre hK hw) rfl hl.1 rfl (Nat.le_of_ble_eq_true rfl) (okX11_flyers (8, .invokevirtual 117, 3) (List.mem_of_getElem? (i := 4) rfl)) ⟨Nat.zero_le _, Nat.zero_le _⟩) hw (fun r_8 I_8 H locs hr_r_8 hM hw => ?_)
  exact sk_iret hx hb hr0 hlocks hK hw hr_r_8 hM (okX11_flyers (11, .ireturn, 1) (List.mem_of_getElem? (i := 5) rfl))
def rmX11_count : Room := { frames := 2, cells := 0, slots := 0, locals := 105 }
set_option maxHeartbeats 4000000 in
set_option maxRecDepth 100000 in
theorem c_Sky_count (l : Launch) (G : sk_G) {p1 : Int} (hr_p1 : rI p1) {Q : Int → sk_S → Prop} {I : sk_S} (hM : M_Sky_count p1 Q I) : Met l yX11_count wsX11_count rmX11_count (va_Pc [.ref (sk_ad G 0), .int (iI p1)] (sk_U G 198 sk_t I)) (sk_Qi G 198 sk_t Q) 0 0 (sk_A G) := by
  refine Met.ofW (cc := cX11_count) (maxL := 2) (ret := (some .int)) (by decide) rfl ?_
  intro p e s m args below meth c s₁ B hml hv
  obtain ⟨rfl, hU, hK⟩ := hv
  have hx := B.exec
  have hb := B.bytes
  have hr0 := B.returns
  have hts := atoms_spec (ws := wsX11_count) B.pre
  have hown : s.vm.findClass RX11 = some m.cls := findClass_of_methodNamed B.named
  have hlocks := B.notSynchronized
  have S : CallFix p m c cX11_count 2 s ([.ref (sk_ad G 0), .int (iI p1)].toArray) wsX11_count RX11 := ⟨hx, hb, hml, hown, hts⟩
  have hL0 := hts (.fieldLink RX11 19 "SkyLights" "gallery" "LSkyLights$Gallery;") (by decide +kernel)
  have hL1 := hts (.fieldLink RX11 54 "SkyLights" "show" "LSkyLights$Show;") (by decide +kernel)
  have hL2 := hts (.fieldLink RX11 61 "SkyLights" "foreign" "LSkyLights$Foreign;") (by decide +kernel)
  have hL3 := hts (.fieldLink RX11 10 "SkyLights" "tape" "LSkyLights$Tape;") (by decide +kernel)
  have hL4 := hts (.fieldLink RX11 26 "SkyLights" "air" "LSkyLights$Air;") (by decide +kernel)
  have hI0 : ∀ w ∈ u_ws RX0 TX0 4, w ∈ wsX11_count := by decide +kernel
  have hI9 : ∀ w ∈ u_ws RX9 TX9 5, w ∈ wsX11_count := by decide +kernel
  have hI11 : ∀ w ∈ u_ws RX11 TX11 8, w ∈ wsX11_count := by decide +kernel
  have hw : sk_W G 198 sk_t I s s.heap [] := ⟨hU, va_S.rf⟩
  have hl := lv_entry ([.ref (sk_ad G 0), .int (iI p1)]) (n := 2) (Nat.le_of_ble_eq_true rfl)
  rw [lg_entry_eq]
  generalize (lg_sl ([.ref (sk_ad G 0), .int (iI p1)]) ++ List.replicate (2 - (lg_sl ([.ref (sk_ad G 0), .int (iI p1)])).length) Slot.unset).toArray = ls at hl ⊢
  have hl : lv_has ls 2 [(0, .ref (sk_ad G 0)), (1, .int (iI p1))] := hl
  suffices hgo : ∀ (H : Heap) (locs : List Loc), sk_W G 198 sk_t I s H locs → W p l e (headSpec wsX11_count rmX11_count).room s m ([.ref (sk_ad G 0), .int (iI p1)].toArray) below meth c H locs 0 0 (MQ below (sk_Qi G 198 sk_t Q) ([.ref (sk_ad G 0), .int (iI p1)].toArray) s 0 0 (sk_A G)) (F0 m 0 ls []) from hgo _ _ hw
  unfold M_Sky_count at hM
  intro H locs hw
  refine lv_iload_n hx hb (okX11_count (0, .iload_n 1, 1) (List.mem_of_getElem? (i := 0) rfl)) rfl (lv_at hl 1 rfl) ?_
  rcases (show (p1 < 0 ∨ 6 < p1) ∨ p1 = 0 ∨ p1 = 1 ∨ p1 = 2 ∨ p1 = 3 ∨ p1 = 4 ∨ p1 = 5 ∨ p1 = 6 by omega) with c1 | c1 | c1 | c1 | c1 | c1 | c1 | c1
  · have hM := hM.1 c1
    refine sk_tabOut (tgt := 97) hx hb hr_p1 c1 (okX11_count (1, .tableswitch 96 0 6 #[43, 48, 56, 64, 72, 80, 88], 43) (List.mem_of_getElem? (i := 1) rfl)) (by decide) ?_
    refine lv_iconst (v := iI (-1)) hx hb (okX11_count (97, .iconst (-1), 1) (List.mem_of_getElem? (i := 29) rfl)) rfl ?_
    exact sk_iret hx hb hr0 hlocks hK hw (by decide) hM (okX11_count (98, .ireturn, 1) (List.mem_of_getElem? (i := 30) rfl))
  · have hM := hM.2.1 c1
    refine sk_tabIn (tgt := 44) (off := 43) hx hb hr_p1 (by rw [c1]; decide) (by rw [c1]; rfl) (okX11_count (1, .tableswitch 96 0 6 #[43, 48, 56, 64, 72, 80, 88], 43) (List.mem_of_getElem? (i := 1) rfl)) (by decide) ?_
    refine lv_aload_n hx hb (okX11_count (44, .aload_n 0, 1) (List.mem_of_getElem? (i := 2) rfl)) rfl (lv_at hl 0 rfl) ?_
    refine sk_ci (sk_runV (a := 0) (C := RX11) (As := []) (rest := []) S (c_Sky_flyers l G hM) sk_blind gX11_count_X11_flyers rfl hdX11_flyers ⟨⟨rfl, rfl⟩, Nat.le_of_ble_eq_true rfl, Nat.le_of_ble_eq_true rfl⟩ (sk_recv hK hw kdn_0 (kd_in kdn_0) (by decide) rfl) (sk_pre hK hw) rfl hl.1 rfl (Nat.le_of_ble_eq_true rfl) (okX11_count (45, .invokevirtual 78, 3) (List.mem_of_getElem? (i := 3) rfl)) ⟨Nat.zero_le _, Nat.zero_le _⟩) hw (fun r_45 I_45 H locs hr_r_45 hM hw => ?_)
    exact sk_iret hx hb hr0 hlocks hK hw hr_r_45 hM (okX11_count (48, .ireturn, 1) (List.mem_of_getElem? (i := 4) rfl))
  · have hM := hM.2.2.1 c1
    refine sk_tabIn (tgt := 49) (off := 48) hx hb hr_p1 (by rw [c1]; decide) (by rw [c1]; rfl) (okX11_count (1, .tableswitch 96 0 6 #[43, 48, 56, 64, 72, 80, 88], 43) (List.mem_of_getElem? (i := 1) rfl)) (by decide) ?_
    refine lv_aload_n hx hb (okX11_count (49, .aload_n 0, 1) (List.mem_of_getElem? (i := 5) rfl)) rfl (lv_at hl 0 rfl) ?_
    refine sk_getr (b := 4) S hK hw kdn_0 (kd_in kdn_0) (C := RX11) (T := TX11) (N := 8) rfl hI11 1 ⟨by decide, rfl, by decide, rfl⟩ rfl (k' := 1) rfl rfl (by decide +kernel) hL0 (okX11_count (50, .getfield 19, 3) (List.mem_of_getElem? (i := 6) rfl)) ?_
    refine sk_ci (sk_runV (a := 4) (C := RX2) (As := []) (rest := []) S (c_Gallery_size l G hM) sk_blind gX11_count_X2_size rfl hdX2_size ⟨⟨rfl, rfl⟩, Nat.le_of_ble_eq_true rfl, Nat.le_of_ble_eq_true rfl⟩ (sk_recv hK hw kdn_4 (kd_in kdn_4) (by decide) rfl) (sk_pre hK hw) rfl hl.1 rfl (Nat.le_of_ble_eq_true rfl) (okX11_count (53, .invokevirtual 99, 3) (List.mem_of_getElem? (i := 7) rfl)) ⟨Nat.zero_le _, Nat.zero_le _⟩) hw (fun r_53 I_53 H locs hr_r_53 hM hw => ?_)
    exact sk_iret hx hb hr0 hlocks hK hw hr_r_53 hM (okX11_count (56, .ireturn, 1) (List.mem_of_getElem? (i := 8) rfl))
  · have hM := hM.2.2.2.1 c1
    refine sk_tabIn (tgt := 57) (off := 56) hx hb hr_p1 (by rw [c1]; decide) (by rw [c1]; rfl) (okX11_count (1, .tableswitch 96 0 6 #[43, 48, 56, 64, 72, 80, 88], 43) (List.mem_of_getElem? (i := 1) rfl)) (by decide) ?_
    refine lv_aload_n hx hb (okX11_count (57, .aload_n 0, 1) (List.mem_of_getElem? (i := 9) rfl)) rfl (lv_at hl 0 rfl) ?_
    refine sk_getr (b := 54) S hK hw kdn_0 (kd_in kdn_0) (C := RX11) (T := TX11) (N := 8) rfl hI11 6 ⟨by decide, rfl, by decide, rfl⟩ rfl (k' := 6) rfl rfl (by decide +kernel) hL1 (okX11_count (58, .getfield 54, 3) (List.mem_of_getElem? (i := 10) rfl)) ?_
    refine sk_ci (sk_runV (a := 54) (C := RX9) (As := []) (rest := []) S (c_Show_size l G hM) sk_blind gX11_count_X9_size rfl hdX9_size ⟨⟨rfl, rfl⟩, Nat.le_of_ble_eq_true rfl, Nat.le_of_ble_eq_true rfl⟩ (sk_recv hK hw kdn_54 (kd_in kdn_54) (by decide) rfl) (sk_pre hK hw) rfl hl.1 rfl (Nat.le_of_ble_eq_true rfl) (okX11_count (61, .invokevirtual 74, 3) (List.mem_of_getElem? (i := 11) rfl)) ⟨Nat.zero_le _, Nat.zero_le _⟩) hw (fun r_61 I_61 H locs hr_r_61 hM hw => ?_)
    exact sk_iret hx hb hr0 hlocks hK hw hr_r_61 hM (okX11_count (64, .ireturn, 1) (List.mem_of_getElem? (i := 12) rfl))
  · have hM := hM.2.2.2.2.1 c1
    refine sk_tabIn (tgt := 65) (off := 64) hx hb hr_p1 (by rw [c1]; decide) (by rw [c1]; rfl) (okX11_count (1, .tableswitch 96 0 6 #[43, 48, 56, 64, 72, 80, 88], 43) (List.mem_of_getElem? (i := 1) rfl)) (by decide) ?_
    refine lv_aload_n hx hb (okX11_count (65, .aload_n 0, 1) (List.mem_of_getElem? (i := 13) rfl)) rfl (lv_at hl 0 rfl) ?_
    refine sk_getr (b := 149) S hK hw kdn_0 (kd_in kdn_0) (C := RX11) (T := TX11) (N := 8) rfl hI11 7 ⟨by decide, rfl, by decide, rfl⟩ rfl (k' := 7) rfl rfl (by decide +kernel) hL2 (okX11_count (66, .getfield 61, 3) (List.mem_of_getElem? (i := 14) rfl)) ?_
    refine sk_ci (sk_runV (a := 149) (C := RX1) (As := []) (rest := []) S (c_Foreign_size l G hM) sk_blind gX11_count_X1_size rfl hdX1_size ⟨⟨rfl, rfl⟩, Nat.le_of_ble_eq_true rfl, Nat.le_of_ble_eq_true rfl⟩ (sk_recv hK hw kdn_149 (kd_in kdn_149) (by decide) rfl) (sk_pre hK hw) rfl hl.1 rfl (Nat.le_of_ble_eq_true rfl) (okX11_count (69, .invokevirtual 245, 3) (List.mem_of_getElem? (i := 15) rfl)) ⟨Nat.zero_le _, Nat.zero_le _⟩) hw (fun r_69 I_69 H locs hr_r_69 hM hw => ?_)
    exact sk_iret hx hb hr0 hlocks hK hw hr_r_69 hM (okX11_count (72, .ireturn, 1) (List.mem_of_getElem? (i := 16) rfl))
  · have hM := hM.2.2.2.2.2.1 c1
    refine sk_tabIn (tgt := 73) (off := 72) hx hb hr_p1 (by rw [c1]; decide) (by rw [c1]; rfl) (okX11_count (1, .tableswitch 96 0 6 #[43, 48, 56, 64, 72, 80, 88], 43) (List.mem_of_getElem? (i := 1) rfl)) (by decide) ?_
    refine lv_aload_n hx hb (okX11_count (73, .aload_n 0, 1) (List.mem_of_getElem? (i := 17) rfl)) rfl (lv_at hl 0 rfl) ?_
    refine sk_getr (b := 1) S hK hw kdn_0 (kd_in kdn_0) (C := RX11) (T := TX11) (N := 8) rfl hI11 0 ⟨by decide, rfl, by decide, rfl⟩ rfl (k' := 0) rfl rfl (by decide +kernel) hL3 (okX11_count (74, .getfield 10, 3) (List.mem_of_getElem? (i := 18) rfl)) ?_
    refine sk_ci (sk_runV (a := 1) (C := RX10) (As := []) (rest := []) S (c_Tape_size l G hM) sk_blind gX11_count_X10_size rfl hdX10_size ⟨⟨rfl, rfl⟩, Nat.le_of_ble_eq_true rfl, Nat.le_of_ble_eq_true rfl⟩ (sk_recv hK hw kdn_1 (kd_in kdn_1) (by decide) rfl) (sk_pre hK hw) rfl hl.1 rfl (Nat.le_of_ble_eq_true rfl) (okX11_count (77, .invokevirtual 95, 3) (List.mem_of_getElem? (i := 19) rfl)) ⟨Nat.zero_le _, Nat.zero_le _⟩) hw (fun r_77 I_77 H locs hr_r_77 hM hw => ?_)
    exact sk_iret hx hb hr0 hlocks hK hw hr_r_77 hM (okX11_count (80, .ireturn, 1) (List.mem_of_getElem? (i := 20) rfl))
  · have hM := hM.2.2.2.2.2.2.1 c1
    refine sk_tabIn (tgt := 81) (off := 80) hx hb hr_p1 (by rw [c1]; decide) (by rw [c1]; rfl) (okX11_count (1, .tableswitch 96 0 6 #[43, 48, 56, 64, 72, 80, 88], 43) (List.mem_of_getElem? (i := 1) rfl)) (by decide) ?_
    refine lv_aload_n hx hb (okX11_count (81, .aload_n 0, 1) (List.mem_of_getElem? (i := 21) rfl)) rfl (lv_at hl 0 rfl) ?_
    refine sk_getr (b := 36) S hK hw kdn_0 (kd_in kdn_0) (C := RX11) (T := TX11) (N := 8) rfl hI11 2 ⟨by decide, rfl, by decide, rfl⟩ rfl (k' := 2) rfl rfl (by decide +kernel) hL4 (okX11_count (82, .getfield 26, 3) (List.mem_of_getElem? (i := 22) rfl)) ?_
    have hr1 := hw.1.2.2 36 0
    refine sk_getiN S hK hw kdn_36 (kd_in kdn_36) (C := RX0) (T := TX0) (N := 4) rfl hI0 0 ⟨by decide, rfl, by decide, rfl⟩ rfl (k' := 0) rfl (va_Nw.use rfl (hK.2.1 ("SkyLights", 134, "SkyLights$Air", "gap", "I") (by decide +kernel))) (okX11_count (85, .getfield 134, 3) (List.mem_of_getElem? (i := 23) rfl)) ?_
    exact sk_iret hx hb hr0 hlocks hK hw hr1 hM (okX11_count (88, .ireturn, 1) (List.mem_of_getElem? (i := 24) rfl))
  · have hM := hM.2.2.2.2.2.2.2 c1
    refine sk_tabIn (tgt := 89) (off := 88) hx hb hr_p1 (by rw [c1]; decide) (by rw [c1]; rfl) (okX11_count (1, .tableswitch 96 0 6 #[43, 48, 56, 64, 72, 80, 88], 43) (List.mem_of_getElem? (i := 1) rfl)) (by decide) ?_
    refine lv_aload_n hx hb (okX11_count (89, .aload_n 0, 1) (List.mem_of_getElem? (i := 25) rfl)) rfl (lv_at hl 0 rfl) ?_
    refine sk_getr (b := 54) S hK hw kdn_0 (kd_in kdn_0) (C := RX11) (T := TX11) (N := 8) rfl hI11 6 ⟨by decide, rfl, by decide, rfl⟩ rfl (k' := 6) rfl rfl (by decide +kernel) hL1 (okX11_count (90, .getfield 54, 3) (List.mem_of_getElem? (i := 26) rfl)) ?_
    have hr2 := hw.1.2.2 54 4
    refine sk_getiN S hK hw kdn_54 (kd_in kdn_54) (C := RX9) (T := TX9) (N := 5) rfl hI9 4 ⟨by decide, rfl, by decide, rfl⟩ rfl (k' := 4) rfl (va_Nw.use rfl (hK.2.1 ("SkyLights", 226, "SkyLights$Show", "margin", "I") (by decide +kernel))) (okX11_count (93, .getfield 226, 3) (List.mem_of_getElem? (i := 27) rfl)) ?_
    exact sk_iret hx hb hr0 hlocks hK hw hr2 hM (okX11_count (96, .ireturn, 1) (List.mem_of_getElem? (i := 28) rfl))
def rmX11_cut : Room := { frames := 1, cells := 0, slots := 0, locals := 52 }
set_option maxHeartbeats 4000000 in
set_option maxRecDepth 100000 in
theorem c_Sky_cut (l : Launch) (G : sk_G) {Q : Int → sk_S → Prop} {I : sk_S} (hM : M_Sky_cut Q I) : Met l yX11_cut wsX11_cut rmX11_cut (va_Pc [.ref (sk_ad G 0)] (sk_U G 198 sk_t I)) (sk_Qi G 198 sk_t Q) 0 0 (sk_A G) := by
  refine Met.ofW (cc := cX11_cut) (maxL := 1) (ret := (some .int)) (by decide) rfl ?_
  intro p e s m args below meth c s₁ B hml hv
  obtain ⟨rfl, hU, hK⟩ := hv
  have hx := B.exec
  have hb := B.bytes
  have hr0 := B.returns
  have hts := atoms_spec (ws := wsX11_cut) B.pre
  have hown : s.vm.findClass RX11 = some m.cls := findClass_of_methodNamed B.named
  have hlocks := B.notSynchronized
  have S : CallFix p m c cX11_cut 1 s ([.ref (sk_ad G 0)].toArray) wsX11_cut RX11 := ⟨hx, hb, hml, hown, hts⟩
  have hL0 := hts (.fieldLink RX11 54 "SkyLights" "show" "LSkyLights$Show;") (by decide +kernel)
  have hI11 : ∀ w ∈ u_ws RX11 TX11 8, w ∈ wsX11_cut := by decide +kernel
  have hw : sk_W G 198 sk_t I s s.heap [] := ⟨hU, va_S.rf⟩
  have hl := lv_entry ([.ref (sk_ad G 0)]) (n := 1) (Nat.le_of_ble_eq_true rfl)
  rw [lg_entry_eq]
  generalize (lg_sl ([.ref (sk_ad G 0)]) ++ List.replicate (1 - (lg_sl ([.ref (sk_ad G 0)])).length) Slot.unset).toArray = ls at hl ⊢
  have hl : lv_has ls 1 [(0, .ref (sk_ad G 0))] := hl
  suffices hgo : ∀ (H : Heap) (locs : List Loc), sk_W G 198 sk_t I s H locs → W p l e (headSpec wsX11_cut rmX11_cut).room s m ([.ref (sk_ad G 0)].toArray) below meth c H locs 0 0 (MQ below (sk_Qi G 198 sk_t Q) ([.ref (sk_ad G 0)].toArray) s 0 0 (sk_A G)) (F0 m 0 ls []) from hgo _ _ hw
  unfold M_Sky_cut at hM
  intro H locs hw
  refine lv_aload_n hx hb (okX11_cut (0, .aload_n 0, 1) (List.mem_of_getElem? (i := 0) rfl)) rfl (lv_at hl 0 rfl) ?_
  refine sk_getr (b := 54) S hK hw kdn_0 (kd_in kdn_0) (C := RX11) (T := TX11) (N := 8) rfl hI11 6 ⟨by decide, rfl, by decide, rfl⟩ rfl (k' := 6) rfl rfl (by decide +kernel) hL0 (okX11_cut (1, .getfield 54, 3) (List.mem_of_getElem? (i := 1) rfl)) ?_
  refine sk_ci (sk_runV (a := 54) (C := RX9) (As := []) (rest := []) S (c_Show_size l G hM) sk_blind gX11_cut_X9_size rfl hdX9_size ⟨⟨rfl, rfl⟩, Nat.le_of_ble_eq_true rfl, Nat.le_of_ble_eq_true rfl⟩ (sk_recv hK hw kdn_54 (kd_in kdn_54) (by decide) rfl) (sk_pre hK hw) rfl hl.1 rfl (Nat.le_of_ble_eq_true rfl) (okX11_cut (4, .invokevirtual 74, 3) (List.mem_of_getElem? (i := 2) rfl)) ⟨Nat.zero_le _, Nat.zero_le _⟩) hw (fun r_4 I_4 H locs hr_r_4 hM hw => ?_)
  refine sk_if_ne (tgt := 13) hx hb hr_r_4 (okX11_cut (7, .ifCond .ne 6, 3) (List.mem_of_getElem? (i := 3) rfl)) (by decide) (fun c7 => ?_) (fun c7 => ?_)
  · have hM := hM.1 c7
    refine lv_aload_n hx hb (okX11_cut (13, .aload_n 0, 1) (List.mem_of_getElem? (i := 6) rfl)) rfl (lv_at hl 0 rfl) ?_
    refine sk_getr (b := 54) S hK hw kdn_0 (kd_in kdn_0) (C := RX11) (T := TX11) (N := 8) rfl hI11 6 ⟨by decide, rfl, by decide, rfl⟩ rfl (k' := 6) rfl rfl (by decide +kernel) hL0 (okX11_cut (14, .getfield 54, 3) (List.mem_of_getElem? (i := 7) rfl)) ?_
    refine sk_cv (sk_runV (a := 54) (C := RX9) (As := []) (rest := []) S (c_Show_dropLast l G hM) sk_blind gX11_cut_X9_dropLast rfl hdX9_dropLast ⟨⟨rfl, rfl⟩, Nat.le_of_ble_eq_true rfl, Nat.le_of_ble_eq_true rfl⟩ (sk_recv hK hw kdn_54 (kd_in kdn_54) (by decide) rfl) (sk_pre hK hw) rfl hl.1 rfl (Nat.le_of_ble_eq_true rfl) (okX11_cut (17, .invokevirtual 238, 3) (List.mem_of_getElem? (i := 8) rfl)) ⟨Nat.zero_le _, Nat.zero_le _⟩) hw (fun I_17 H locs hM hw => ?_)
    refine lv_aload_n hx hb (okX11_cut (20, .aload_n 0, 1) (List.mem_of_getElem? (i := 9) rfl)) rfl (lv_at hl 0 rfl) ?_
    refine sk_getr (b := 54) S hK hw kdn_0 (kd_in kdn_0) (C := RX11) (T := TX11) (N := 8) rfl hI11 6 ⟨by decide, rfl, by decide, rfl⟩ rfl (k' := 6) rfl rfl (by decide +kernel) hL0 (okX11_cut (21, .getfield 54, 3) (List.mem_of_getElem? (i := 10) rfl)) ?_
    refine sk_ci (sk_runV (a := 54) (C := RX9) (As := []) (rest := []) S (c_Show_size l G hM) sk_blind gX11_cut_X9_size rfl hdX9_size ⟨⟨rfl, rfl⟩, Nat.le_of_ble_eq_true rfl, Nat.le_of_ble_eq_true rfl⟩ (sk_recv hK hw kdn_54 (kd_in kdn_54) (by decide) rfl) (sk_pre hK hw) rfl hl.1 rfl (Nat.le_of_ble_eq_true rfl) (okX11_cut (24, .invokevirtual 74, 3) (List.mem_of_getElem? (i := 11) rfl)) ⟨Nat.zero_le _, Nat.zero_le _⟩) hw (fun r_24 I_24 H locs hr_r_24 hM hw => ?_)
    exact sk_iret hx hb hr0 hlocks hK hw hr_r_24 hM (okX11_cut (27, .ireturn, 1) (List.mem_of_getElem? (i := 12) rfl))
  · have hM := hM.2 c7
    refine lv_bipush (v := iI (-3)) hx hb (okX11_cut (10, .bipush (-3), 2) (List.mem_of_getElem? (i := 4) rfl)) (by decide +kernel) ?_
    exact sk_iret hx hb hr0 hlocks hK hw (by decide) hM (okX11_cut (12, .ireturn, 1) (List.mem_of_getElem? (i := 5) rfl))
def rmX11_delay : Room := { frames := 2, cells := 0, slots := 0, locals := 108 }
set_option maxHeartbeats 4000000 in
set_option maxRecDepth 100000 in
theorem c_Sky_delay (l : Launch) (G : sk_G) {p1 p2 : Int} (hr_p1 : rI p1) (hr_p2 : rI p2) {Q : Int → sk_S → Prop} {I : sk_S} (hM : M_Sky_delay p1 p2 Q I) : Met l yX11_delay wsX11_delay rmX11_delay (va_Pc [.ref (sk_ad G 0), .int (iI p1), .int (iI p2)] (sk_U G 198 sk_t I)) (sk_Qi G 198 sk_t Q) 0 0 (sk_A G) := by
  refine Met.ofW (cc := cX11_delay) (maxL := 4) (ret := (some .int)) (by decide) rfl ?_
  intro p e s m args below meth c s₁ B hml hv
  obtain ⟨rfl, hU, hK⟩ := hv
  have hx := B.exec
  have hb := B.bytes
  have hr0 := B.returns
  have hts := atoms_spec (ws := wsX11_delay) B.pre
  have hown : s.vm.findClass RX11 = some m.cls := findClass_of_methodNamed B.named
  have hlocks := B.notSynchronized
  have S : CallFix p m c cX11_delay 4 s ([.ref (sk_ad G 0), .int (iI p1), .int (iI p2)].toArray) wsX11_delay RX11 := ⟨hx, hb, hml, hown, hts⟩
  have hL0 := hts (.fieldLink RX11 40 "SkyLights" "latest" "LSkyLights$Pass;") (by decide +kernel)
  have hI11 : ∀ w ∈ u_ws RX11 TX11 8, w ∈ wsX11_delay := by decide +kernel
  have hw : sk_W G 198 sk_t I s s.heap [] := ⟨hU, va_S.rf⟩
  have hl := lv_entry ([.ref (sk_ad G 0), .int (iI p1), .int (iI p2)]) (n := 4) (Nat.le_of_ble_eq_true rfl)
  rw [lg_entry_eq]
  generalize (lg_sl ([.ref (sk_ad G 0), .int (iI p1), .int (iI p2)]) ++ List.replicate (4 - (lg_sl ([.ref (sk_ad G 0), .int (iI p1), .int (iI p2)])).length) Slot.unset).toArray = ls at hl ⊢
  have hl : lv_has ls 4 [(0, .ref (sk_ad G 0)), (1, .int (iI p1)), (2, .int (iI p2))] := hl
  suffices hgo : ∀ (H : Heap) (locs : List Loc), sk_W G 198 sk_t I s H locs → W p l e (headSpec wsX11_delay rmX11_delay).room s m ([.ref (sk_ad G 0), .int (iI p1), .int (iI p2)].toArray) below meth c H locs 0 0 (MQ below (sk_Qi G 198 sk_t Q) ([.ref (sk_ad G 0), .int (iI p1), .int (iI p2)].toArray) s 0 0 (sk_A G)) (F0 m 0 ls []) from hgo _ _ hw
  unfold M_Sky_delay at hM
  intro H locs hw
  refine lv_aload_n hx hb (okX11_delay (0, .aload_n 0, 1) (List.mem_of_getElem? (i := 0) rfl)) rfl (lv_at hl 0 rfl) ?_
  refine sk_getr (b := 44) S hK hw kdn_0 (kd_in kdn_0) (C := RX11) (T := TX11) (N := 8) rfl hI11 4 ⟨by decide, rfl, by decide, rfl⟩ rfl (k' := 4) rfl rfl (by decide +kernel) hL0 (okX11_delay (1, .getfield 40, 3) (List.mem_of_getElem? (i := 1) rfl)) ?_
  refine lv_iload_n hx hb (okX11_delay (4, .iload_n 1, 1) (List.mem_of_getElem? (i := 2) rfl)) rfl (lv_at hl 1 rfl) ?_
  refine sk_ci (sk_runV (a := 44) (C := RX4) (As := [.int (iI p1)]) (rest := []) S (c_Pass_has l G kdn_44 hr_p1 hM) sk_blind gX11_delay_X4_has rfl hdX4_has ⟨⟨rfl, rfl⟩, Nat.le_of_ble_eq_true rfl, Nat.le_of_ble_eq_true rfl⟩ (sk_recv hK hw kdn_44 (kd_in kdn_44) (by decide) rfl) (sk_pre hK hw) rfl hl.1 rfl (Nat.le_of_ble_eq_true rfl) (okX11_delay (5, .invokevirtual 154, 3) (List.mem_of_getElem? (i := 3) rfl)) ⟨Nat.zero_le _, Nat.zero_le _⟩) hw (fun r_5 I_5 H locs hr_r_5 hM hw => ?_)
  obtain ⟨hb_r_5, hM⟩ := hM
  refine sk_if_ne (tgt := 13) hx hb hr_r_5 (okX11_delay (8, .ifCond .ne 5, 3) (List.mem_of_getElem? (i := 4) rfl)) (by decide) (fun c8 => ?_) (fun c8 => ?_)
  · have hM := hM.1 c8
    refine lv_iload_n hx hb (okX11_delay (13, .iload_n 2, 1) (List.mem_of_getElem? (i := 7) rfl)) rfl (lv_at hl 2 rfl) ?_
    refine lv_iconst (v := iI 0) hx hb (okX11_delay (14, .iconst 0, 1) (List.mem_of_getElem? (i := 8) rfl)) rfl ?_
    refine lv_bipush (v := iI 9) hx hb (okX11_delay (15, .bipush 9, 2) (List.mem_of_getElem? (i := 9) rfl)) (by decide +kernel) ?_
    refine sk_ci (sk_runS (As := [.int (iI p2), .int (iI 0), .int (iI 9)]) (rest := []) S (c_Sky_isWithin l G hr_p2 (by decide) (by decide) hM) sk_blind gX11_delay_X11_isWithin rfl hdX11_isWithin ⟨⟨rfl, rfl⟩, Nat.le_of_ble_eq_true rfl, Nat.le_of_ble_eq_true rfl⟩ (sk_pre hK hw) rfl hl.1 rfl (Nat.le_of_ble_eq_true rfl) (okX11_delay (17, .invokestatic 70, 3) (List.mem_of_getElem? (i := 10) rfl)) ⟨Nat.zero_le _, Nat.zero_le _⟩) hw (fun r_17 I_17 H locs hr_r_17 hM hw => ?_)
    obtain ⟨hb_r_17, hM⟩ := hM
    refine sk_if_ne (tgt := 26) hx hb hr_r_17 (okX11_delay (20, .ifCond .ne 6, 3) (List.mem_of_getElem? (i := 11) rfl)) (by decide) (fun c20 => ?_) (fun c20 => ?_)
    · have hM := hM.1 c20
      refine lv_aload_n hx hb (okX11_delay (26, .aload_n 0, 1) (List.mem_of_getElem? (i := 14) rfl)) rfl (lv_at hl 0 rfl) ?_
      refine sk_getr (b := 44) S hK hw kdn_0 (kd_in kdn_0) (C := RX11) (T := TX11) (N := 8) rfl hI11 4 ⟨by decide, rfl, by decide, rfl⟩ rfl (k' := 4) rfl rfl (by decide +kernel) hL0 (okX11_delay (27, .getfield 40, 3) (List.mem_of_getElem? (i := 15) rfl)) ?_
      refine lv_iload_n hx hb (okX11_delay (30, .iload_n 1, 1) (List.mem_of_getElem? (i := 16) rfl)) rfl (lv_at hl 1 rfl) ?_
      refine sk_ci (sk_runV (a := 44) (C := RX4) (As := [.int (iI p1)]) (rest := []) S (c_Pass_delayOf l G kdn_44 hr_p1 hM) sk_blind gX11_delay_X4_delayOf rfl hdX4_delayOf ⟨⟨rfl, rfl⟩, Nat.le_of_ble_eq_true rfl, Nat.le_of_ble_eq_true rfl⟩ (sk_recv hK hw kdn_44 (kd_in kdn_44) (by decide) rfl) (sk_pre hK hw) rfl hl.1 rfl (Nat.le_of_ble_eq_true rfl) (okX11_delay (31, .invokevirtual 159, 3) (List.mem_of_getElem? (i := 17) rfl)) ⟨Nat.zero_le _, Nat.zero_le _⟩) hw (fun r_31 I_31 H locs hr_r_31 hM hw => ?_)
      refine lv_istore_n (lv' := [(3, .int (iI r_31)), (0, .ref (sk_ad G 0)), (1, .int (iI p1)), (2, .int (iI p2))]) hx hb (okX11_delay (34, .istore_n 3, 1) (List.mem_of_getElem? (i := 18) rfl)) rfl hl (by decide) rfl (fun ls hl => ?_)
      refine lv_aload_n hx hb (okX11_delay (35, .aload_n 0, 1) (List.mem_of_getElem? (i := 19) rfl)) rfl (lv_at hl 1 rfl) ?_
      refine sk_getr (b := 44) S hK hw kdn_0 (kd_in kdn_0) (C := RX11) (T := TX11) (N := 8) rfl hI11 4 ⟨by decide, rfl, by decide, rfl⟩ rfl (k' := 4) rfl rfl (by decide +kernel) hL0 (okX11_delay (36, .getfield 40, 3) (List.mem_of_getElem? (i := 20) rfl)) ?_
      refine lv_iload_n hx hb (okX11_delay (39, .iload_n 1, 1) (List.mem_of_getElem? (i := 21) rfl)) rfl (lv_at hl 2 rfl) ?_
      refine lv_iload_n hx hb (okX11_delay (40, .iload_n 2, 1) (List.mem_of_getElem? (i := 22) rfl)) rfl (lv_at hl 3 rfl) ?_
      refine sk_cv (sk_runV (a := 44) (C := RX4) (As := [.int (iI p1), .int (iI p2)]) (rest := []) S (c_Pass_setDelay l G kdn_44 hr_p1 hr_p2 hM) sk_blind gX11_delay_X4_setDelay rfl hdX4_setDelay ⟨⟨rfl, rfl⟩, Nat.le_of_ble_eq_true rfl, Nat.le_of_ble_eq_true rfl⟩ (sk_recv hK hw kdn_44 (kd_in kdn_44) (by decide) rfl) (sk_pre hK hw) rfl hl.1 rfl (Nat.le_of_ble_eq_true rfl) (okX11_delay (41, .invokevirtual 162, 3) (List.mem_of_getElem? (i := 23) rfl)) ⟨Nat.zero_le _, Nat.zero_le _⟩) hw (fun I_41 H locs hM hw => ?_)
      refine lv_iload_n hx hb (okX11_delay (44, .iload_n 3, 1) (List.mem_of_getElem? (i := 24) rfl)) rfl (lv_at hl 0 rfl) ?_
      exact sk_iret hx hb hr0 hlocks hK hw hr_r_31 hM (okX11_delay (45, .ireturn, 1) (List.mem_of_getElem? (i := 25) rfl))
    · have hM := hM.2 c20
      refine lv_bipush (v := iI (-2)) hx hb (okX11_delay (23, .bipush (-2), 2) (List.mem_of_getElem? (i := 12) rfl)) (by decide +kernel) ?_
      exact sk_iret hx hb hr0 hlocks hK hw (by decide) hM (okX11_delay (25, .ireturn, 1) (List.mem_of_getElem? (i := 13) rfl))
  · have hM := hM.2 c8
    refine lv_iconst (v := iI (-1)) hx hb (okX11_delay (11, .iconst (-1), 1) (List.mem_of_getElem? (i := 5) rfl)) rfl ?_
    exact sk_iret hx hb hr0 hlocks hK hw (by decide) hM (okX11_delay (12, .ireturn, 1) (List.mem_of_getElem? (i := 6) rfl))
def rmX11_enters : Room := { frames := 3, cells := 0, slots := 0, locals := 193 }
set_option maxHeartbeats 4000000 in
set_option maxRecDepth 100000 in
theorem c_Sky_enters (l : Launch) (G : sk_G) {p1 : Int} (hr_p1 : rI p1) {Q : Int → sk_S → Prop} {I : sk_S} (hM : M_Sky_enters p1 Q I) : Met l yX11_enters wsX11_enters rmX11_enters (va_Pc [.ref (sk_ad G 0), .int (iI p1)] (sk_U G 198 sk_t I)) (sk_Qi G 198 sk_t Q) 0 0 (sk_A G) := by
  refine Met.ofW (cc := cX11_enters) (maxL := 2) (ret := (some .int)) (by decide) rfl ?_
  intro p e s m args below meth c s₁ B hml hv
  obtain ⟨rfl, hU, hK⟩ := hv
  have hx := B.exec
  have hb := B.bytes
  have hr0 := B.returns
  have hts := atoms_spec (ws := wsX11_enters) B.pre
  have hown : s.vm.findClass RX11 = some m.cls := findClass_of_methodNamed B.named
  have hlocks := B.notSynchronized
  have S : CallFix p m c cX11_enters 2 s ([.ref (sk_ad G 0), .int (iI p1)].toArray) wsX11_enters RX11 := ⟨hx, hb, hml, hown, hts⟩
  have hL0 := hts (.fieldLink RX11 40 "SkyLights" "latest" "LSkyLights$Pass;") (by decide +kernel)
  have hL1 := hts (.fieldLink RX11 26 "SkyLights" "air" "LSkyLights$Air;") (by decide +kernel)
  have hI11 : ∀ w ∈ u_ws RX11 TX11 8, w ∈ wsX11_enters := by decide +kernel
  have hw : sk_W G 198 sk_t I s s.heap [] := ⟨hU, va_S.rf⟩
  have hl := lv_entry ([.ref (sk_ad G 0), .int (iI p1)]) (n := 2) (Nat.le_of_ble_eq_true rfl)
  rw [lg_entry_eq]
  generalize (lg_sl ([.ref (sk_ad G 0), .int (iI p1)]) ++ List.replicate (2 - (lg_sl ([.ref (sk_ad G 0), .int (iI p1)])).length) Slot.unset).toArray = ls at hl ⊢
  have hl : lv_has ls 2 [(0, .ref (sk_ad G 0)), (1, .int (iI p1))] := hl
  suffices hgo : ∀ (H : Heap) (locs : List Loc), sk_W G 198 sk_t I s H locs → W p l e (headSpec wsX11_enters rmX11_enters).room s m ([.ref (sk_ad G 0), .int (iI p1)].toArray) below meth c H locs 0 0 (MQ below (sk_Qi G 198 sk_t Q) ([.ref (sk_ad G 0), .int (iI p1)].toArray) s 0 0 (sk_A G)) (F0 m 0 ls []) from hgo _ _ hw
  unfold M_Sky_enters at hM
  intro H locs hw
  refine lv_aload_n hx hb (okX11_enters (0, .aload_n 0, 1) (List.mem_of_getElem? (i := 0) rfl)) rfl (lv_at hl 0 rfl) ?_
  refine sk_getr (b := 44) S hK hw kdn_0 (kd_in kdn_0) (C := RX11) (T := TX11) (N := 8) rfl hI11 4 ⟨by decide, rfl, by decide, rfl⟩ rfl (k' := 4) rfl rfl (by decide +kernel) hL0 (okX11_enters (1, .getfield 40, 3) (List.mem_of_getElem? (i := 1) rfl)) ?_
  refine lv_iload_n hx hb (okX11_enters (4, .iload_n 1, 1) (List.mem_of_getElem? (i := 2) rfl)) rfl (lv_at hl 1 rfl) ?_
  refine sk_ci (sk_runV (a := 44) (C := RX4) (As := [.int (iI p1)]) (rest := []) S (c_Pass_has l G kdn_44 hr_p1 hM) sk_blind gX11_enters_X4_has rfl hdX4_has ⟨⟨rfl, rfl⟩, Nat.le_of_ble_eq_true rfl, Nat.le_of_ble_eq_true rfl⟩ (sk_recv hK hw kdn_44 (kd_in kdn_44) (by decide) rfl) (sk_pre hK hw) rfl hl.1 rfl (Nat.le_of_ble_eq_true rfl) (okX11_enters (5, .invokevirtual 154, 3) (List.mem_of_getElem? (i := 3) rfl)) ⟨Nat.zero_le _, Nat.zero_le _⟩) hw (fun r_5 I_5 H locs hr_r_5 hM hw => ?_)
  obtain ⟨hb_r_5, hM⟩ := hM
  refine sk_if_eq (tgt := 29) hx hb hr_r_5 (okX11_enters (8, .ifCond .eq 21, 3) (List.mem_of_getElem? (i := 4) rfl)) (by decide) (fun c8 => ?_) (fun c8 => ?_)
  · have hM := hM.1 c8
    refine lv_iconst (v := iI (-1)) hx hb (okX11_enters (29, .iconst (-1), 1) (List.mem_of_getElem? (i := 13) rfl)) rfl ?_
    exact sk_iret hx hb hr0 hlocks hK hw (by decide) hM (okX11_enters (30, .ireturn, 1) (List.mem_of_getElem? (i := 14) rfl))
  · have hM := hM.2 c8
    refine lv_aload_n hx hb (okX11_enters (11, .aload_n 0, 1) (List.mem_of_getElem? (i := 5) rfl)) rfl (lv_at hl 0 rfl) ?_
    refine sk_getr (b := 44) S hK hw kdn_0 (kd_in kdn_0) (C := RX11) (T := TX11) (N := 8) rfl hI11 4 ⟨by decide, rfl, by decide, rfl⟩ rfl (k' := 4) rfl rfl (by decide +kernel) hL0 (okX11_enters (12, .getfield 40, 3) (List.mem_of_getElem? (i := 6) rfl)) ?_
    refine lv_iload_n hx hb (okX11_enters (15, .iload_n 1, 1) (List.mem_of_getElem? (i := 7) rfl)) rfl (lv_at hl 1 rfl) ?_
    refine lv_aload_n hx hb (okX11_enters (16, .aload_n 0, 1) (List.mem_of_getElem? (i := 8) rfl)) rfl (lv_at hl 0 rfl) ?_
    refine sk_getr (b := 36) S hK hw kdn_0 (kd_in kdn_0) (C := RX11) (T := TX11) (N := 8) rfl hI11 2 ⟨by decide, rfl, by decide, rfl⟩ rfl (k' := 2) rfl rfl (by decide +kernel) hL1 (okX11_enters (17, .getfield 26, 3) (List.mem_of_getElem? (i := 9) rfl)) ?_
    refine sk_ci (sk_runV (a := 44) (C := RX4) (As := [.int (iI p1), .ref (sk_ad G 36)]) (rest := []) S (c_Pass_isInZone l G kdn_44 hr_p1 hM) sk_blind gX11_enters_X4_isInZone rfl hdX4_isInZone ⟨⟨rfl, rfl⟩, Nat.le_of_ble_eq_true rfl, Nat.le_of_ble_eq_true rfl⟩ (sk_recv hK hw kdn_44 (kd_in kdn_44) (by decide) rfl) (sk_pre hK hw) rfl hl.1 rfl (Nat.le_of_ble_eq_true rfl) (okX11_enters (20, .invokevirtual 169, 3) (List.mem_of_getElem? (i := 10) rfl)) ⟨Nat.zero_le _, Nat.zero_le _⟩) hw (fun r_20 I_20 H locs hr_r_20 hM hw => ?_)
    obtain ⟨hb_r_20, hM⟩ := hM
    refine sk_ci (sk_runS (As := [.int (iI r_20)]) (rest := []) S (c_Sky_bit l G hr_r_20 hM) sk_blind gX11_enters_X11_bit rfl hdX11_bit ⟨⟨rfl, rfl⟩, Nat.le_of_ble_eq_true rfl, Nat.le_of_ble_eq_true rfl⟩ (sk_pre hK hw) rfl hl.1 rfl (Nat.le_of_ble_eq_true rfl) (okX11_enters (23, .invokestatic 122, 3) (List.mem_of_getElem? (i := 11) rfl)) ⟨Nat.zero_le _, Nat.zero_le _⟩) hw (fun r_23 I_23 H locs hr_r_23 hM hw => ?_)
    refine lv_goto (tgt := 30) hx hb (okX11_enters (26, .goto 4, 3) (List.mem_of_getElem? (i := 12) rfl)) (by decide) ?_
    exact sk_iret hx hb hr0 hlocks hK hw hr_r_23 hM (okX11_enters (30, .ireturn, 1) (List.mem_of_getElem? (i := 14) rfl))
def rmX11_isFlyer : Room := { frames := 1, cells := 0, slots := 0, locals := 53 }
set_option maxHeartbeats 4000000 in
set_option maxRecDepth 100000 in
theorem c_Sky_isFlyer (l : Launch) (G : sk_G) {p1 : Int} (hr_p1 : rI p1) {Q : Int → sk_S → Prop} {I : sk_S} (hM : M_Sky_isFlyer p1 Q I) : Met l yX11_isFlyer wsX11_isFlyer rmX11_isFlyer (va_Pc [.ref (sk_ad G 0), .int (iI p1)] (sk_U G 198 sk_t I)) (sk_Qz G 198 sk_t Q) 0 0 (sk_A G) := by
  refine Met.ofW (cc := cX11_isFlyer) (maxL := 2) (ret := (some .boolean)) (by decide) rfl ?_
  intro p e s m args below meth c s₁ B hml hv
  obtain ⟨rfl, hU, hK⟩ := hv
  have hx := B.exec
  have hb := B.bytes
  have hr0 := B.returns
  have hts := atoms_spec (ws := wsX11_isFlyer) B.pre
  have hown : s.vm.findClass RX11 = some m.cls := findClass_of_methodNamed B.named
  have hlocks := B.notSynchronized
  have S : CallFix p m c cX11_isFlyer 2 s ([.ref (sk_ad G 0), .int (iI p1)].toArray) wsX11_isFlyer RX11 := ⟨hx, hb, hml, hown, hts⟩
  have hL0 := hts (.fieldLink RX11 19 "SkyLights" "gallery" "LSkyLights$Gallery;") (by decide +kernel)
  have hI11 : ∀ w ∈ u_ws RX11 TX11 8, w ∈ wsX11_isFlyer := by decide +kernel
  have hw : sk_W G 198 sk_t I s s.heap [] := ⟨hU, va_S.rf⟩
  have hl := lv_entry ([.ref (sk_ad G 0), .int (iI p1)]) (n := 2) (Nat.le_of_ble_eq_true rfl)
  rw [lg_entry_eq]
  generalize (lg_sl ([.ref (sk_ad G 0), .int (iI p1)]) ++ List.replicate (2 - (lg_sl ([.ref (sk_ad G 0), .int (iI p1)])).length) Slot.unset).toArray = ls at hl ⊢
  have hl : lv_has ls 2 [(0, .ref (sk_ad G 0)), (1, .int (iI p1))] := hl
  suffices hgo : ∀ (H : Heap) (locs : List Loc), sk_W G 198 sk_t I s H locs → W p l e (headSpec wsX11_isFlyer rmX11_isFlyer).room s m ([.ref (sk_ad G 0), .int (iI p1)].toArray) below meth c H locs 0 0 (MQ below (sk_Qz G 198 sk_t Q) ([.ref (sk_ad G 0), .int (iI p1)].toArray) s 0 0 (sk_A G)) (F0 m 0 ls []) from hgo _ _ hw
  unfold M_Sky_isFlyer at hM
  intro H locs hw
  refine lv_aload_n hx hb (okX11_isFlyer (0, .aload_n 0, 1) (List.mem_of_getElem? (i := 0) rfl)) rfl (lv_at hl 0 rfl) ?_
  refine sk_getr (b := 4) S hK hw kdn_0 (kd_in kdn_0) (C := RX11) (T := TX11) (N := 8) rfl hI11 1 ⟨by decide, rfl, by decide, rfl⟩ rfl (k' := 1) rfl rfl (by decide +kernel) hL0 (okX11_isFlyer (1, .getfield 19, 3) (List.mem_of_getElem? (i := 1) rfl)) ?_
  refine lv_iconst (v := iI (-1)) hx hb (okX11_isFlyer (4, .iconst (-1), 1) (List.mem_of_getElem? (i := 2) rfl)) rfl ?_
  refine sk_cr (sk_runV (a := 4) (C := RX2) (As := [.int (iI ((-1)))]) (rest := []) S (c_Gallery_at l G (by decide) hM) sk_blind gX11_isFlyer_X2_at rfl hdX2_at ⟨⟨rfl, rfl⟩, Nat.le_of_ble_eq_true rfl, Nat.le_of_ble_eq_true rfl⟩ (sk_recv hK hw kdn_4 (kd_in kdn_4) (by decide) rfl) (sk_pre hK hw) rfl hl.1 rfl (Nat.le_of_ble_eq_true rfl) (okX11_isFlyer (5, .invokevirtual 81, 3) (List.mem_of_getElem? (i := 3) rfl)) ⟨Nat.zero_le _, Nat.zero_le _⟩) hw (fun r_5 I_5 H locs hk_r_5 hM hw => ?_)
  refine lv_iload_n hx hb (okX11_isFlyer (8, .iload_n 1, 1) (List.mem_of_getElem? (i := 4) rfl)) rfl (lv_at hl 1 rfl) ?_
  refine sk_ci (sk_runV (a := r_5) (C := RX5) (As := [.int (iI p1)]) (rest := []) S (c_Places_has l G hk_r_5 hr_p1 hM) sk_blind gX11_isFlyer_X5_has rfl hdX5_has ⟨⟨rfl, rfl⟩, Nat.le_of_ble_eq_true rfl, Nat.le_of_ble_eq_true rfl⟩ (sk_recv hK hw hk_r_5 (kd_in hk_r_5) (by decide) rfl) (sk_pre hK hw) rfl hl.1 rfl (Nat.le_of_ble_eq_true rfl) (okX11_isFlyer (9, .invokevirtual 126, 3) (List.mem_of_getElem? (i := 5) rfl)) ⟨Nat.zero_le _, Nat.zero_le _⟩) hw (fun r_9 I_9 H locs hr_r_9 hM hw => ?_)
  obtain ⟨hb_r_9, hM⟩ := hM
  exact sk_zret hx hb hr0 hlocks hK hw hb_r_9 hM (okX11_isFlyer (12, .ireturn, 1) (List.mem_of_getElem? (i := 6) rfl))
def rmX11_worth : Room := { frames := 3, cells := 0, slots := 0, locals := 162 }
set_option maxHeartbeats 4000000 in
set_option maxRecDepth 100000 in
theorem c_Sky_worth (l : Launch) (G : sk_G) {p1 p2 : Int} (hr_p1 : rI p1) (hr_p2 : rI p2) {Q : Int → sk_S → Prop} {I : sk_S} (hM : M_Sky_worth p1 p2 Q I) : Met l yX11_worth wsX11_worth rmX11_worth (va_Pc [.ref (sk_ad G 0), .int (iI p1), .int (iI p2)] (sk_U G 198 sk_t I)) (sk_Qi G 198 sk_t Q) 0 0 (sk_A G) := by
  refine Met.ofW (cc := cX11_worth) (maxL := 3) (ret := (some .int)) (by decide) rfl ?_
  intro p e s m args below meth c s₁ B hml hv
  obtain ⟨rfl, hU, hK⟩ := hv
  have hx := B.exec
  have hb := B.bytes
  have hr0 := B.returns
  have hts := atoms_spec (ws := wsX11_worth) B.pre
  have hown : s.vm.findClass RX11 = some m.cls := findClass_of_methodNamed B.named
  have hlocks := B.notSynchronized
  have S : CallFix p m c cX11_worth 3 s ([.ref (sk_ad G 0), .int (iI p1), .int (iI p2)].toArray) wsX11_worth RX11 := ⟨hx, hb, hml, hown, hts⟩
  have hL0 := hts (.fieldLink RX11 19 "SkyLights" "gallery" "LSkyLights$Gallery;") (by decide +kernel)
  have hL1 := hts (.fieldLink RX11 54 "SkyLights" "show" "LSkyLights$Show;") (by decide +kernel)
  have hI8 : ∀ w ∈ u_ws RX8 TX8 5, w ∈ wsX11_worth := by decide +kernel
  have hI11 : ∀ w ∈ u_ws RX11 TX11 8, w ∈ wsX11_worth := by decide +kernel
  have hw : sk_W G 198 sk_t I s s.heap [] := ⟨hU, va_S.rf⟩
  have hl := lv_entry ([.ref (sk_ad G 0), .int (iI p1), .int (iI p2)]) (n := 3) (Nat.le_of_ble_eq_true rfl)
  rw [lg_entry_eq]
  generalize (lg_sl ([.ref (sk_ad G 0), .int (iI p1), .int (iI p2)]) ++ List.replicate (3 - (lg_sl ([.ref (sk_ad G 0), .int (iI p1), .int (iI p2)])).length) Slot.unset).toArray = ls at hl ⊢
  have hl : lv_has ls 3 [(0, .ref (sk_ad G 0)), (1, .int (iI p1)), (2, .int (iI p2))] := hl
  suffices hgo : ∀ (H : Heap) (locs : List Loc), sk_W G 198 sk_t I s H locs → W p l e (headSpec wsX11_worth rmX11_worth).room s m ([.ref (sk_ad G 0), .int (iI p1), .int (iI p2)].toArray) below meth c H locs 0 0 (MQ below (sk_Qi G 198 sk_t Q) ([.ref (sk_ad G 0), .int (iI p1), .int (iI p2)].toArray) s 0 0 (sk_A G)) (F0 m 0 ls []) from hgo _ _ hw
  unfold M_Sky_worth at hM
  intro H locs hw
  refine lv_aload_n hx hb (okX11_worth (0, .aload_n 0, 1) (List.mem_of_getElem? (i := 0) rfl)) rfl (lv_at hl 0 rfl) ?_
  refine sk_getr (b := 4) S hK hw kdn_0 (kd_in kdn_0) (C := RX11) (T := TX11) (N := 8) rfl hI11 1 ⟨by decide, rfl, by decide, rfl⟩ rfl (k' := 1) rfl rfl (by decide +kernel) hL0 (okX11_worth (1, .getfield 19, 3) (List.mem_of_getElem? (i := 1) rfl)) ?_
  refine lv_aload_n hx hb (okX11_worth (4, .aload_n 0, 1) (List.mem_of_getElem? (i := 2) rfl)) rfl (lv_at hl 0 rfl) ?_
  refine sk_getr (b := 54) S hK hw kdn_0 (kd_in kdn_0) (C := RX11) (T := TX11) (N := 8) rfl hI11 6 ⟨by decide, rfl, by decide, rfl⟩ rfl (k' := 6) rfl rfl (by decide +kernel) hL1 (okX11_worth (5, .getfield 54, 3) (List.mem_of_getElem? (i := 3) rfl)) ?_
  refine lv_iload_n hx hb (okX11_worth (8, .iload_n 2, 1) (List.mem_of_getElem? (i := 4) rfl)) rfl (lv_at hl 2 rfl) ?_
  refine sk_cr (sk_runV (a := 54) (C := RX9) (As := [.int (iI p2)]) (rest := [.ref (sk_ad G 4)]) S (c_Show_at l G hr_p2 hM) sk_blind gX11_worth_X9_at rfl hdX9_at ⟨⟨rfl, rfl⟩, Nat.le_of_ble_eq_true rfl, Nat.le_of_ble_eq_true rfl⟩ (sk_recv hK hw kdn_54 (kd_in kdn_54) (by decide) rfl) (sk_pre hK hw) rfl hl.1 rfl (Nat.le_of_ble_eq_true rfl) (okX11_worth (9, .invokevirtual 232, 3) (List.mem_of_getElem? (i := 5) rfl)) ⟨Nat.zero_le _, Nat.zero_le _⟩) hw (fun r_9 I_9 H locs hk_r_9 hM hw => ?_)
  have hr1 := hw.1.2.2 r_9 2
  refine sk_getiN S hK hw hk_r_9 (kd_in hk_r_9) (C := RX8) (T := TX8) (N := 5) rfl hI8 2 ⟨by decide, rfl, by decide, rfl⟩ rfl (k' := 2) rfl (va_Nw.use rfl (hK.2.1 ("SkyLights", 196, "SkyLights$Scene", "figure", "I") (by decide +kernel))) (okX11_worth (12, .getfield 196, 3) (List.mem_of_getElem? (i := 6) rfl)) ?_
  refine sk_cr (sk_runV (a := 4) (C := RX2) (As := [.int (iI (I_9 r_9 2))]) (rest := []) S (c_Gallery_at l G hr1 hM) sk_blind gX11_worth_X2_at rfl hdX2_at ⟨⟨rfl, rfl⟩, Nat.le_of_ble_eq_true rfl, Nat.le_of_ble_eq_true rfl⟩ (sk_recv hK hw kdn_4 (kd_in kdn_4) (by decide) rfl) (sk_pre hK hw) rfl hl.1 rfl (Nat.le_of_ble_eq_true rfl) (okX11_worth (15, .invokevirtual 81, 3) (List.mem_of_getElem? (i := 7) rfl)) ⟨Nat.zero_le _, Nat.zero_le _⟩) hw (fun r_15 I_15 H locs hk_r_15 hM hw => ?_)
  refine lv_aload_n hx hb (okX11_worth (18, .aload_n 0, 1) (List.mem_of_getElem? (i := 8) rfl)) rfl (lv_at hl 0 rfl) ?_
  refine sk_getr (b := 54) S hK hw kdn_0 (kd_in kdn_0) (C := RX11) (T := TX11) (N := 8) rfl hI11 6 ⟨by decide, rfl, by decide, rfl⟩ rfl (k' := 6) rfl rfl (by decide +kernel) hL1 (okX11_worth (19, .getfield 54, 3) (List.mem_of_getElem? (i := 9) rfl)) ?_
  refine lv_iload_n hx hb (okX11_worth (22, .iload_n 1, 1) (List.mem_of_getElem? (i := 10) rfl)) rfl (lv_at hl 1 rfl) ?_
  refine lv_iload_n hx hb (okX11_worth (23, .iload_n 2, 1) (List.mem_of_getElem? (i := 11) rfl)) rfl (lv_at hl 2 rfl) ?_
  refine sk_ci (sk_runV (a := 54) (C := RX9) (As := [.int (iI p1), .int (iI p2)]) (rest := [.ref (sk_ad G r_15)]) S (c_Show_place l G hr_p1 hr_p2 hM) sk_blind gX11_worth_X9_place rfl hdX9_place ⟨⟨rfl, rfl⟩, Nat.le_of_ble_eq_true rfl, Nat.le_of_ble_eq_true rfl⟩ (sk_recv hK hw kdn_54 (kd_in kdn_54) (by decide) rfl) (sk_pre hK hw) rfl hl.1 rfl (Nat.le_of_ble_eq_true rfl) (okX11_worth (24, .invokevirtual 213, 3) (List.mem_of_getElem? (i := 12) rfl)) ⟨Nat.zero_le _, Nat.zero_le _⟩) hw (fun r_24 I_24 H locs hr_r_24 hM hw => ?_)
  refine lv_iconst (v := iI 3) hx hb (okX11_worth (27, .iconst 3, 1) (List.mem_of_getElem? (i := 13) rfl)) rfl ?_
  refine sk_ci (sk_runV (a := r_15) (C := RX5) (As := [.int (iI r_24), .int (iI 3)]) (rest := []) S (c_Places_told l G hk_r_15 hr_r_24 (by decide) hM) sk_blind gX11_worth_X5_told rfl hdX5_told ⟨⟨rfl, rfl⟩, Nat.le_of_ble_eq_true rfl, Nat.le_of_ble_eq_true rfl⟩ (sk_recv hK hw hk_r_15 (kd_in hk_r_15) (by decide) rfl) (sk_pre hK hw) rfl hl.1 rfl (Nat.le_of_ble_eq_true rfl) (okX11_worth (28, .invokevirtual 127, 3) (List.mem_of_getElem? (i := 14) rfl)) ⟨Nat.zero_le _, Nat.zero_le _⟩) hw (fun r_28 I_28 H locs hr_r_28 hM hw => ?_)
  exact sk_iret hx hb hr0 hlocks hK hw hr_r_28 hM (okX11_worth (31, .ireturn, 1) (List.mem_of_getElem? (i := 15) rfl))
def rmX11_fails : Room := { frames := 4, cells := 0, slots := 0, locals := 216 }
set_option maxHeartbeats 4000000 in
set_option maxRecDepth 100000 in
theorem c_Sky_fails (l : Launch) (G : sk_G) {p1 p2 p3 : Int} (hr_p1 : rI p1) (hr_p2 : rI p2) (hr_p3 : rI p3) {Q : Int → sk_S → Prop} {I : sk_S} (hM : M_Sky_fails p1 p2 p3 Q I) : Met l yX11_fails wsX11_fails rmX11_fails (va_Pc [.ref (sk_ad G 0), .int (iI p1), .int (iI p2), .int (iI p3)] (sk_U G 198 sk_t I)) (sk_Qi G 198 sk_t Q) 0 0 (sk_A G) := by
  refine Met.ofW (cc := cX11_fails) (maxL := 8) (ret := (some .int)) (by decide) rfl ?_
  intro p e s m args below meth c s₁ B hml hv
  obtain ⟨rfl, hU, hK⟩ := hv
  have hx := B.exec
  have hb := B.bytes
  have hr0 := B.returns
  have hts := atoms_spec (ws := wsX11_fails) B.pre
  have hown : s.vm.findClass RX11 = some m.cls := findClass_of_methodNamed B.named
  have hlocks := B.notSynchronized
  have S : CallFix p m c cX11_fails 8 s ([.ref (sk_ad G 0), .int (iI p1), .int (iI p2), .int (iI p3)].toArray) wsX11_fails RX11 := ⟨hx, hb, hml, hown, hts⟩
  have hL0 := hts (.fieldLink RX11 54 "SkyLights" "show" "LSkyLights$Show;") (by decide +kernel)
  have hI11 : ∀ w ∈ u_ws RX11 TX11 8, w ∈ wsX11_fails := by decide +kernel
  have hw : sk_W G 198 sk_t I s s.heap [] := ⟨hU, va_S.rf⟩
  have hl := lv_entry ([.ref (sk_ad G 0), .int (iI p1), .int (iI p2), .int (iI p3)]) (n := 8) (Nat.le_of_ble_eq_true rfl)
  rw [lg_entry_eq]
  generalize (lg_sl ([.ref (sk_ad G 0), .int (iI p1), .int (iI p2), .int (iI p3)]) ++ List.replicate (8 - (lg_sl ([.ref (sk_ad G 0), .int (iI p1), .int (iI p2), .int (iI p3)])).length) Slot.unset).toArray = ls at hl ⊢
  have hl : lv_has ls 8 [(0, .ref (sk_ad G 0)), (1, .int (iI p1)), (2, .int (iI p2)), (3, .int (iI p3))] := hl
  suffices hgo : ∀ (H : Heap) (locs : List Loc), sk_W G 198 sk_t I s H locs → W p l e (headSpec wsX11_fails rmX11_fails).room s m ([.ref (sk_ad G 0), .int (iI p1), .int (iI p2), .int (iI p3)].toArray) below meth c H locs 0 0 (MQ below (sk_Qi G 198 sk_t Q) ([.ref (sk_ad G 0), .int (iI p1), .int (iI p2), .int (iI p3)].toArray) s 0 0 (sk_A G)) (F0 m 0 ls []) from hgo _ _ hw
  have hJ_45 : ∀ (v2 v3 v4 v5 v6 : Int) (I : sk_S), rI v2 → rI v3 → rI v4 → rI v5 → rI v6 → L_Sky_fails_45 v2 v3 Q v4 v5 v6 I → ∀ (H : Heap) (locs : List Loc) (ls : Array Slot), sk_W G 198 sk_t I s H locs → lv_has ls 8 [(0, .ref (sk_ad G 0)), (2, .int (iI v2)), (3, .int (iI v3)), (4, .int (iI v4)), (5, .int (iI v5)), (6, .int (iI v6))] → W p l e (headSpec wsX11_fails rmX11_fails).room s m ([.ref (sk_ad G 0), .int (iI p1), .int (iI p2), .int (iI p3)].toArray) below meth c H locs 0 0 (MQ below (sk_Qi G 198 sk_t Q) ([.ref (sk_ad G 0), .int (iI p1), .int (iI p2), .int (iI p3)].toArray) s 0 0 (sk_A G)) (F0 m 45 ls []) := by
    intro v2 v3 v4 v5 v6 I hr_v2 hr_v3 hr_v4 hr_v5 hr_v6 hM H locs ls hw hl
    unfold L_Sky_fails_45 at hM
    obtain ⟨X_45, hX_45⟩ : ∃ X : Int → Int → Int → sk_S → Prop, ∀ (v4 v5 v6 : Int) (I : sk_S), X v4 v5 v6 I ↔ (rI v4 → rI v5 → rI v6 → ∀ (H : Heap) (locs : List Loc) (ls : Array Slot), sk_W G 198 sk_t I s H locs → lv_has ls 8 [(0, .ref (sk_ad G 0)), (2, .int (iI v2)), (3, .int (iI v3)), (4, .int (iI v4)), (5, .int (iI v5)), (6, .int (iI v6))] → W p l e (headSpec wsX11_fails rmX11_fails).room s m ([.ref (sk_ad G 0), .int (iI p1), .int (iI p2), .int (iI p3)].toArray) below meth c H locs 0 0 (MQ below (sk_Qi G 198 sk_t Q) ([.ref (sk_ad G 0), .int (iI p1), .int (iI p2), .int (iI p3)].toArray) s 0 0 (sk_A G)) (F0 m 45 ls [])) := ⟨_, fun _ _ _ _ => Iff.rfl⟩
    have hJ_78 : ∀ (v4 v5 v6 : Int) (I : sk_S), rI v4 → rI v5 → rI v6 → J_Sky_fails_78 v2 v3 v4 v5 v6 Q X_45 I → ∀ (H : Heap) (locs : List Loc) (ls : Array Slot), sk_W G 198 sk_t I s H locs → lv_has ls 8 [(0, .ref (sk_ad G 0)), (2, .int (iI v2)), (3, .int (iI v3)), (4, .int (iI v4)), (5, .int (iI v5)), (6, .int (iI v6))] → W p l e (headSpec wsX11_fails rmX11_fails).room s m ([.ref (sk_ad G 0), .int (iI p1), .int (iI p2), .int (iI p3)].toArray) below meth c H locs 0 0 (MQ below (sk_Qi G 198 sk_t Q) ([.ref (sk_ad G 0), .int (iI p1), .int (iI p2), .int (iI p3)].toArray) s 0 0 (sk_A G)) (F0 m 78 ls []) := by
      intro v4 v5 v6 I hr_v4 hr_v5 hr_v6 hM H locs ls hw hl
      unfold J_Sky_fails_78 at hM
      obtain ⟨hr1, hM⟩ := hM
      obtain ⟨v6_78, ev6_78⟩ : ∃ y : Int, y = v6 + 1 := ⟨_, rfl⟩
      have hM := hM v6_78 ev6_78
      have hr_v6_78 : rI v6_78 := by rw [ev6_78]; exact hr1
      refine lv_iinc (v := iI v6_78) (lv' := [(6, .int (iI v6_78)), (0, .ref (sk_ad G 0)), (2, .int (iI v2)), (3, .int (iI v3)), (4, .int (iI v4)), (5, .int (iI v5))]) hx hb (okX11_fails (78, .iinc 6 1, 3) (List.mem_of_getElem? (i := 41) rfl)) hl (k := 5) rfl (by rw [ev6_78]; exact iI_add _ _) (by decide) rfl (fun ls hl => ?_)
      refine lv_goto (tgt := 45) hx hb (okX11_fails (81, .goto (-36), 3) (List.mem_of_getElem? (i := 42) rfl)) (by decide) ?_
      exact (hX_45 v4 v5 v6_78 I).1 hM hr_v4 hr_v5 hr_v6_78 H locs ls hw (lv_sub hl [1, 2, 3, 4, 5, 0] rfl)
    refine (hX_45 v4 v5 v6 I).1 (hM X_45 (fun v4 v5 v6 I hM => (hX_45 v4 v5 v6 I).2 (fun hr_v4 hr_v5 hr_v6 H locs ls hw hl => ?_))) hr_v4 hr_v5 hr_v6 H locs ls hw hl
    refine lv_iload hx hb (okX11_fails (45, .iload 6, 2) (List.mem_of_getElem? (i := 25) rfl)) (lv_at hl 5 rfl) ?_
    refine lv_aload_n hx hb (okX11_fails (47, .aload_n 0, 1) (List.mem_of_getElem? (i := 26) rfl)) rfl (lv_at hl 0 rfl) ?_
    refine sk_ci (sk_runV (a := 0) (C := RX11) (As := []) (rest := [.int (iI v6)]) S (c_Sky_flyers l G hM) sk_blind gX11_fails_X11_flyers rfl hdX11_flyers ⟨⟨rfl, rfl⟩, Nat.le_of_ble_eq_true rfl, Nat.le_of_ble_eq_true rfl⟩ (sk_recv hK hw kdn_0 (kd_in kdn_0) (by decide) rfl) (sk_pre hK hw) rfl hl.1 rfl (Nat.le_of_ble_eq_true rfl) (okX11_fails (48, .invokevirtual 78, 3) (List.mem_of_getElem? (i := 27) rfl)) ⟨Nat.zero_le _, Nat.zero_le _⟩) hw (fun r_48 I_48 H locs hr_r_48 hM hw => ?_)
    refine sk_icmp_ge (tgt := 84) hx hb hr_v6 hr_r_48 (okX11_fails (51, .if_icmp .ge 33, 3) (List.mem_of_getElem? (i := 28) rfl)) (by decide) (fun c51 => ?_) (fun c51 => ?_)
    · have hM := hM.1 c51
      refine lv_iload_n hx hb (okX11_fails (84, .iload_n 3, 1) (List.mem_of_getElem? (i := 43) rfl)) rfl (lv_at hl 2 rfl) ?_
      refine sk_if_ne (tgt := 93) hx hb hr_v3 (okX11_fails (85, .ifCond .ne 8, 3) (List.mem_of_getElem? (i := 44) rfl)) (by decide) (fun c85 => ?_) (fun c85 => ?_)
      · have hM := hM.1 c85
        refine lv_iload hx hb (okX11_fails (93, .iload 4, 2) (List.mem_of_getElem? (i := 47) rfl)) (lv_at hl 3 rfl) ?_
        exact sk_iret hx hb hr0 hlocks hK hw hr_v4 hM (okX11_fails (95, .ireturn, 1) (List.mem_of_getElem? (i := 48) rfl))
      · have hM := hM.2 c85
        refine lv_iload hx hb (okX11_fails (88, .iload 5, 2) (List.mem_of_getElem? (i := 45) rfl)) (lv_at hl 4 rfl) ?_
        refine lv_goto (tgt := 95) hx hb (okX11_fails (90, .goto 5, 3) (List.mem_of_getElem? (i := 46) rfl)) (by decide) ?_
        exact sk_iret hx hb hr0 hlocks hK hw hr_v5 hM (okX11_fails (95, .ireturn, 1) (List.mem_of_getElem? (i := 48) rfl))
    · have hM := hM.2 c51
      refine lv_aload_n hx hb (okX11_fails (54, .aload_n 0, 1) (List.mem_of_getElem? (i := 29) rfl)) rfl (lv_at hl 0 rfl) ?_
      refine lv_iload hx hb (okX11_fails (55, .iload 6, 2) (List.mem_of_getElem? (i := 30) rfl)) (lv_at hl 5 rfl) ?_
      refine lv_iload_n hx hb (okX11_fails (57, .iload_n 2, 1) (List.mem_of_getElem? (i := 31) rfl)) rfl (lv_at hl 1 rfl) ?_
      refine sk_ci (sk_runV (a := 0) (C := RX11) (As := [.int (iI v6), .int (iI v2)]) (rest := []) S (c_Sky_worth l G hr_v6 hr_v2 hM) sk_blind gX11_fails_X11_worth rfl hdX11_worth ⟨⟨rfl, rfl⟩, Nat.le_of_ble_eq_true rfl, Nat.le_of_ble_eq_true rfl⟩ (sk_recv hK hw kdn_0 (kd_in kdn_0) (by decide) rfl) (sk_pre hK hw) rfl hl.1 rfl (Nat.le_of_ble_eq_true rfl) (okX11_fails (58, .invokevirtual 235, 3) (List.mem_of_getElem? (i := 32) rfl)) ⟨Nat.zero_le _, Nat.zero_le _⟩) hw (fun r_58 I_58 H locs hr_r_58 hM hw => ?_)
      refine lv_istore (lv' := [(7, .int (iI r_58)), (0, .ref (sk_ad G 0)), (2, .int (iI v2)), (3, .int (iI v3)), (4, .int (iI v4)), (5, .int (iI v5)), (6, .int (iI v6))]) hx hb (okX11_fails (61, .istore 7, 2) (List.mem_of_getElem? (i := 33) rfl)) hl (by decide) rfl (fun ls hl => ?_)
      refine lv_iload hx hb (okX11_fails (63, .iload 7, 2) (List.mem_of_getElem? (i := 34) rfl)) (lv_at hl 0 rfl) ?_
      refine lv_iload hx hb (okX11_fails (65, .iload 5, 2) (List.mem_of_getElem? (i := 35) rfl)) (lv_at hl 5 rfl) ?_
      refine sk_icmp_ge (tgt := 78) hx hb hr_r_58 hr_v5 (okX11_fails (67, .if_icmp .ge 11, 3) (List.mem_of_getElem? (i := 36) rfl)) (by decide) (fun c67 => ?_) (fun c67 => ?_)
      · have hM := hM.1 c67
        exact hJ_78 v4 v5 v6 I_58 hr_v4 hr_v5 hr_v6 hM H locs ls hw (lv_sub hl [1, 2, 3, 4, 5, 6] rfl)
      · have hM := hM.2 c67
        refine lv_iload hx hb (okX11_fails (70, .iload 7, 2) (List.mem_of_getElem? (i := 37) rfl)) (lv_at hl 0 rfl) ?_
        refine lv_istore (lv' := [(5, .int (iI r_58)), (7, .int (iI r_58)), (0, .ref (sk_ad G 0)), (2, .int (iI v2)), (3, .int (iI v3)), (4, .int (iI v4)), (6, .int (iI v6))]) hx hb (okX11_fails (72, .istore 5, 2) (List.mem_of_getElem? (i := 38) rfl)) hl (by decide) rfl (fun ls hl => ?_)
        refine lv_iload hx hb (okX11_fails (74, .iload 6, 2) (List.mem_of_getElem? (i := 39) rfl)) (lv_at hl 6 rfl) ?_
        refine lv_istore (lv' := [(4, .int (iI v6)), (5, .int (iI r_58)), (7, .int (iI r_58)), (0, .ref (sk_ad G 0)), (2, .int (iI v2)), (3, .int (iI v3)), (6, .int (iI v6))]) hx hb (okX11_fails (76, .istore 4, 2) (List.mem_of_getElem? (i := 40) rfl)) hl (by decide) rfl (fun ls hl => ?_)
        exact hJ_78 v6 r_58 v6 I_58 hr_v6 hr_r_58 hr_v6 hM H locs ls hw (lv_sub hl [3, 4, 5, 0, 1, 6] rfl)
  unfold M_Sky_fails at hM
  intro H locs hw
  refine lv_aload_n hx hb (okX11_fails (0, .aload_n 0, 1) (List.mem_of_getElem? (i := 0) rfl)) rfl (lv_at hl 0 rfl) ?_
  refine lv_iload_n hx hb (okX11_fails (1, .iload_n 1, 1) (List.mem_of_getElem? (i := 1) rfl)) rfl (lv_at hl 1 rfl) ?_
  refine sk_ci (sk_runV (a := 0) (C := RX11) (As := [.int (iI p1)]) (rest := []) S (c_Sky_isFlyer l G hr_p1 hM) sk_blind gX11_fails_X11_isFlyer rfl hdX11_isFlyer ⟨⟨rfl, rfl⟩, Nat.le_of_ble_eq_true rfl, Nat.le_of_ble_eq_true rfl⟩ (sk_recv hK hw kdn_0 (kd_in kdn_0) (by decide) rfl) (sk_pre hK hw) rfl hl.1 rfl (Nat.le_of_ble_eq_true rfl) (okX11_fails (2, .invokevirtual 209, 3) (List.mem_of_getElem? (i := 2) rfl)) ⟨Nat.zero_le _, Nat.zero_le _⟩) hw (fun r_2 I_2 H locs hr_r_2 hM hw => ?_)
  obtain ⟨hb_r_2, hM⟩ := hM
  refine sk_if_eq (tgt := 28) hx hb hr_r_2 (okX11_fails (5, .ifCond .eq 23, 3) (List.mem_of_getElem? (i := 3) rfl)) (by decide) (fun c5 => ?_) (fun c5 => ?_)
  · have hM := hM.1 c5
    refine lv_iconst (v := iI (-1)) hx hb (okX11_fails (28, .iconst (-1), 1) (List.mem_of_getElem? (i := 14) rfl)) rfl ?_
    exact sk_iret hx hb hr0 hlocks hK hw (by decide) hM (okX11_fails (29, .ireturn, 1) (List.mem_of_getElem? (i := 15) rfl))
  · have hM := hM.2 c5
    refine lv_aload_n hx hb (okX11_fails (8, .aload_n 0, 1) (List.mem_of_getElem? (i := 4) rfl)) rfl (lv_at hl 0 rfl) ?_
    refine sk_getr (b := 54) S hK hw kdn_0 (kd_in kdn_0) (C := RX11) (T := TX11) (N := 8) rfl hI11 6 ⟨by decide, rfl, by decide, rfl⟩ rfl (k' := 6) rfl rfl (by decide +kernel) hL0 (okX11_fails (9, .getfield 54, 3) (List.mem_of_getElem? (i := 5) rfl)) ?_
    refine lv_iload_n hx hb (okX11_fails (12, .iload_n 2, 1) (List.mem_of_getElem? (i := 6) rfl)) rfl (lv_at hl 2 rfl) ?_
    refine sk_ci (sk_runV (a := 54) (C := RX9) (As := [.int (iI p2)]) (rest := []) S (c_Show_has l G hr_p2 hM) sk_blind gX11_fails_X9_has rfl hdX9_has ⟨⟨rfl, rfl⟩, Nat.le_of_ble_eq_true rfl, Nat.le_of_ble_eq_true rfl⟩ (sk_recv hK hw kdn_54 (kd_in kdn_54) (by decide) rfl) (sk_pre hK hw) rfl hl.1 rfl (Nat.le_of_ble_eq_true rfl) (okX11_fails (13, .invokevirtual 212, 3) (List.mem_of_getElem? (i := 7) rfl)) ⟨Nat.zero_le _, Nat.zero_le _⟩) hw (fun r_13 I_13 H locs hr_r_13 hM hw => ?_)
    obtain ⟨hb_r_13, hM⟩ := hM
    refine sk_if_eq (tgt := 28) hx hb hr_r_13 (okX11_fails (16, .ifCond .eq 12, 3) (List.mem_of_getElem? (i := 8) rfl)) (by decide) (fun c16 => ?_) (fun c16 => ?_)
    · have hM := hM.1 c16
      refine lv_iconst (v := iI (-1)) hx hb (okX11_fails (28, .iconst (-1), 1) (List.mem_of_getElem? (i := 14) rfl)) rfl ?_
      exact sk_iret hx hb hr0 hlocks hK hw (by decide) hM (okX11_fails (29, .ireturn, 1) (List.mem_of_getElem? (i := 15) rfl))
    · have hM := hM.2 c16
      refine lv_iload_n hx hb (okX11_fails (19, .iload_n 3, 1) (List.mem_of_getElem? (i := 9) rfl)) rfl (lv_at hl 3 rfl) ?_
      refine lv_iconst (v := iI 0) hx hb (okX11_fails (20, .iconst 0, 1) (List.mem_of_getElem? (i := 10) rfl)) rfl ?_
      refine lv_iconst (v := iI 1) hx hb (okX11_fails (21, .iconst 1, 1) (List.mem_of_getElem? (i := 11) rfl)) rfl ?_
      refine sk_ci (sk_runS (As := [.int (iI p3), .int (iI 0), .int (iI 1)]) (rest := []) S (c_Sky_isWithin l G hr_p3 (by decide) (by decide) hM) sk_blind gX11_fails_X11_isWithin rfl hdX11_isWithin ⟨⟨rfl, rfl⟩, Nat.le_of_ble_eq_true rfl, Nat.le_of_ble_eq_true rfl⟩ (sk_pre hK hw) rfl hl.1 rfl (Nat.le_of_ble_eq_true rfl) (okX11_fails (22, .invokestatic 70, 3) (List.mem_of_getElem? (i := 12) rfl)) ⟨Nat.zero_le _, Nat.zero_le _⟩) hw (fun r_22 I_22 H locs hr_r_22 hM hw => ?_)
      obtain ⟨hb_r_22, hM⟩ := hM
      refine sk_if_ne (tgt := 30) hx hb hr_r_22 (okX11_fails (25, .ifCond .ne 5, 3) (List.mem_of_getElem? (i := 13) rfl)) (by decide) (fun c25 => ?_) (fun c25 => ?_)
      · have hM := hM.1 c25
        refine lv_bipush (v := iI (-2)) hx hb (okX11_fails (30, .bipush (-2), 2) (List.mem_of_getElem? (i := 16) rfl)) (by decide +kernel) ?_
        refine lv_istore (lv' := [(4, .int (iI ((-2)))), (0, .ref (sk_ad G 0)), (1, .int (iI p1)), (2, .int (iI p2)), (3, .int (iI p3))]) hx hb (okX11_fails (32, .istore 4, 2) (List.mem_of_getElem? (i := 17) rfl)) hl (by decide) rfl (fun ls hl => ?_)
        refine lv_aload_n hx hb (okX11_fails (34, .aload_n 0, 1) (List.mem_of_getElem? (i := 18) rfl)) rfl (lv_at hl 1 rfl) ?_
        refine lv_iload_n hx hb (okX11_fails (35, .iload_n 1, 1) (List.mem_of_getElem? (i := 19) rfl)) rfl (lv_at hl 2 rfl) ?_
        refine lv_iload_n hx hb (okX11_fails (36, .iload_n 2, 1) (List.mem_of_getElem? (i := 20) rfl)) rfl (lv_at hl 3 rfl) ?_
        refine sk_ci (sk_runV (a := 0) (C := RX11) (As := [.int (iI p1), .int (iI p2)]) (rest := []) S (c_Sky_worth l G hr_p1 hr_p2 hM) sk_blind gX11_fails_X11_worth rfl hdX11_worth ⟨⟨rfl, rfl⟩, Nat.le_of_ble_eq_true rfl, Nat.le_of_ble_eq_true rfl⟩ (sk_recv hK hw kdn_0 (kd_in kdn_0) (by decide) rfl) (sk_pre hK hw) rfl hl.1 rfl (Nat.le_of_ble_eq_true rfl) (okX11_fails (37, .invokevirtual 235, 3) (List.mem_of_getElem? (i := 21) rfl)) ⟨Nat.zero_le _, Nat.zero_le _⟩) hw (fun r_37 I_37 H locs hr_r_37 hM hw => ?_)
        refine lv_istore (lv' := [(5, .int (iI r_37)), (4, .int (iI ((-2)))), (0, .ref (sk_ad G 0)), (1, .int (iI p1)), (2, .int (iI p2)), (3, .int (iI p3))]) hx hb (okX11_fails (40, .istore 5, 2) (List.mem_of_getElem? (i := 22) rfl)) hl (by decide) rfl (fun ls hl => ?_)
        refine lv_iconst (v := iI 0) hx hb (okX11_fails (42, .iconst 0, 1) (List.mem_of_getElem? (i := 23) rfl)) rfl ?_
        refine lv_istore (lv' := [(6, .int (iI 0)), (5, .int (iI r_37)), (4, .int (iI ((-2)))), (0, .ref (sk_ad G 0)), (1, .int (iI p1)), (2, .int (iI p2)), (3, .int (iI p3))]) hx hb (okX11_fails (43, .istore 6, 2) (List.mem_of_getElem? (i := 24) rfl)) hl (by decide) rfl (fun ls hl => ?_)
        exact hJ_45 p2 p3 ((-2)) r_37 0 I_37 hr_p2 hr_p3 (by decide) hr_r_37 (by decide) hM H locs ls hw (lv_sub hl [3, 5, 6, 2, 1, 0] rfl)
      · have hM := hM.2 c25
        refine lv_iconst (v := iI (-1)) hx hb (okX11_fails (28, .iconst (-1), 1) (List.mem_of_getElem? (i := 14) rfl)) rfl ?_
        exact sk_iret hx hb hr0 hlocks hK hw (by decide) hM (okX11_fails (29, .ireturn, 1) (List.mem_of_getElem? (i := 15) rfl))
def rmX11_feed : Room := { frames := 2, cells := 0, slots := 0, locals := 110 }
set_option maxHeartbeats 4000000 in
set_option maxRecDepth 100000 in
theorem c_Sky_feed (l : Launch) (G : sk_G) {p1 p3 : Int} (hr_p1 : rL p1) (hr_p3 : rI p3) {Q : Int → sk_S → Prop} {I : sk_S} (hM : M_Sky_feed p1 p3 Q I) : Met l yX11_feed wsX11_feed rmX11_feed (va_Pc [.ref (sk_ad G 0), .long (lI p1), .int (iI p3)] (sk_U G 198 sk_t I)) (sk_Qi G 198 sk_t Q) 0 0 (sk_A G) := by
  refine Met.ofW (cc := cX11_feed) (maxL := 4) (ret := (some .int)) (by decide) rfl ?_
  intro p e s m args below meth c s₁ B hml hv
  obtain ⟨rfl, hU, hK⟩ := hv
  have hx := B.exec
  have hb := B.bytes
  have hr0 := B.returns
  have hts := atoms_spec (ws := wsX11_feed) B.pre
  have hown : s.vm.findClass RX11 = some m.cls := findClass_of_methodNamed B.named
  have hlocks := B.notSynchronized
  have S : CallFix p m c cX11_feed 4 s ([.ref (sk_ad G 0), .long (lI p1), .int (iI p3)].toArray) wsX11_feed RX11 := ⟨hx, hb, hml, hown, hts⟩
  have hL0 := hts (.fieldLink RX11 10 "SkyLights" "tape" "LSkyLights$Tape;") (by decide +kernel)
  have hI11 : ∀ w ∈ u_ws RX11 TX11 8, w ∈ wsX11_feed := by decide +kernel
  have hw : sk_W G 198 sk_t I s s.heap [] := ⟨hU, va_S.rf⟩
  have hl := lv_entry ([.ref (sk_ad G 0), .long (lI p1), .int (iI p3)]) (n := 4) (Nat.le_of_ble_eq_true rfl)
  rw [lg_entry_eq]
  generalize (lg_sl ([.ref (sk_ad G 0), .long (lI p1), .int (iI p3)]) ++ List.replicate (4 - (lg_sl ([.ref (sk_ad G 0), .long (lI p1), .int (iI p3)])).length) Slot.unset).toArray = ls at hl ⊢
  have hl : lv_has ls 4 [(0, .ref (sk_ad G 0)), (1, .long (lI p1)), (3, .int (iI p3))] := hl
  suffices hgo : ∀ (H : Heap) (locs : List Loc), sk_W G 198 sk_t I s H locs → W p l e (headSpec wsX11_feed rmX11_feed).room s m ([.ref (sk_ad G 0), .long (lI p1), .int (iI p3)].toArray) below meth c H locs 0 0 (MQ below (sk_Qi G 198 sk_t Q) ([.ref (sk_ad G 0), .long (lI p1), .int (iI p3)].toArray) s 0 0 (sk_A G)) (F0 m 0 ls []) from hgo _ _ hw
  unfold M_Sky_feed at hM
  intro H locs hw
  refine lv_iload_n hx hb (okX11_feed (0, .iload_n 3, 1) (List.mem_of_getElem? (i := 0) rfl)) rfl (lv_at hl 2 rfl) ?_
  refine lv_iconst (v := iI 1) hx hb (okX11_feed (1, .iconst 1, 1) (List.mem_of_getElem? (i := 1) rfl)) rfl ?_
  refine lv_bipush (v := iI 8) hx hb (okX11_feed (2, .bipush 8, 2) (List.mem_of_getElem? (i := 2) rfl)) (by decide +kernel) ?_
  refine sk_ci (sk_runS (As := [.int (iI p3), .int (iI 1), .int (iI 8)]) (rest := []) S (c_Sky_isWithin l G hr_p3 (by decide) (by decide) hM) sk_blind gX11_feed_X11_isWithin rfl hdX11_isWithin ⟨⟨rfl, rfl⟩, Nat.le_of_ble_eq_true rfl, Nat.le_of_ble_eq_true rfl⟩ (sk_pre hK hw) rfl hl.1 rfl (Nat.le_of_ble_eq_true rfl) (okX11_feed (4, .invokestatic 70, 3) (List.mem_of_getElem? (i := 3) rfl)) ⟨Nat.zero_le _, Nat.zero_le _⟩) hw (fun r_4 I_4 H locs hr_r_4 hM hw => ?_)
  obtain ⟨hb_r_4, hM⟩ := hM
  refine sk_if_ne (tgt := 13) hx hb hr_r_4 (okX11_feed (7, .ifCond .ne 6, 3) (List.mem_of_getElem? (i := 4) rfl)) (by decide) (fun c7 => ?_) (fun c7 => ?_)
  · have hM := hM.1 c7
    refine lv_aload_n hx hb (okX11_feed (13, .aload_n 0, 1) (List.mem_of_getElem? (i := 7) rfl)) rfl (lv_at hl 0 rfl) ?_
    refine sk_getr (b := 1) S hK hw kdn_0 (kd_in kdn_0) (C := RX11) (T := TX11) (N := 8) rfl hI11 0 ⟨by decide, rfl, by decide, rfl⟩ rfl (k' := 0) rfl rfl (by decide +kernel) hL0 (okX11_feed (14, .getfield 10, 3) (List.mem_of_getElem? (i := 8) rfl)) ?_
    refine sk_ci (sk_runV (a := 1) (C := RX10) (As := []) (rest := []) S (c_Tape_size l G hM) sk_blind gX11_feed_X10_size rfl hdX10_size ⟨⟨rfl, rfl⟩, Nat.le_of_ble_eq_true rfl, Nat.le_of_ble_eq_true rfl⟩ (sk_recv hK hw kdn_1 (kd_in kdn_1) (by decide) rfl) (sk_pre hK hw) rfl hl.1 rfl (Nat.le_of_ble_eq_true rfl) (okX11_feed (17, .invokevirtual 95, 3) (List.mem_of_getElem? (i := 9) rfl)) ⟨Nat.zero_le _, Nat.zero_le _⟩) hw (fun r_17 I_17 H locs hr_r_17 hM hw => ?_)
    refine lv_iload_n hx hb (okX11_feed (20, .iload_n 3, 1) (List.mem_of_getElem? (i := 10) rfl)) rfl (lv_at hl 2 rfl) ?_
    refine sk_iadd hx hb (okX11_feed (21, .iadd, 1) (List.mem_of_getElem? (i := 11) rfl)) ?_
    refine lv_sipush (v := iI 300) hx hb (okX11_feed (22, .sipush 300, 3) (List.mem_of_getElem? (i := 12) rfl)) (by decide +kernel) ?_
    obtain ⟨hr1, hM⟩ := hM
    refine sk_icmp_le (tgt := 31) hx hb hr1 (by decide) (okX11_feed (25, .if_icmp .le 6, 3) (List.mem_of_getElem? (i := 13) rfl)) (by decide) (fun c25 => ?_) (fun c25 => ?_)
    · have hM := hM.1 c25
      refine lv_aload_n hx hb (okX11_feed (31, .aload_n 0, 1) (List.mem_of_getElem? (i := 16) rfl)) rfl (lv_at hl 0 rfl) ?_
      refine sk_getr (b := 1) S hK hw kdn_0 (kd_in kdn_0) (C := RX11) (T := TX11) (N := 8) rfl hI11 0 ⟨by decide, rfl, by decide, rfl⟩ rfl (k' := 0) rfl rfl (by decide +kernel) hL0 (okX11_feed (32, .getfield 10, 3) (List.mem_of_getElem? (i := 17) rfl)) ?_
      refine lv_lload_n hx hb (okX11_feed (35, .lload_n 1, 1) (List.mem_of_getElem? (i := 18) rfl)) rfl (lv_at hl 1 rfl) ?_
      refine lv_iload_n hx hb (okX11_feed (36, .iload_n 3, 1) (List.mem_of_getElem? (i := 19) rfl)) rfl (lv_at hl 2 rfl) ?_
      refine sk_cv (sk_runV (a := 1) (C := RX10) (As := [.long (lI p1), .int (iI p3)]) (rest := []) S (c_Tape_add l G hr_p1 hr_p3 hM) sk_blind gX11_feed_X10_add rfl hdX10_add ⟨⟨rfl, rfl⟩, Nat.le_of_ble_eq_true rfl, Nat.le_of_ble_eq_true rfl⟩ (sk_recv hK hw kdn_1 (kd_in kdn_1) (by decide) rfl) (sk_pre hK hw) rfl hl.1 rfl (Nat.le_of_ble_eq_true rfl) (okX11_feed (37, .invokevirtual 96, 3) (List.mem_of_getElem? (i := 20) rfl)) ⟨Nat.zero_le _, Nat.zero_le _⟩) hw (fun I_37 H locs hM hw => ?_)
      refine lv_aload_n hx hb (okX11_feed (40, .aload_n 0, 1) (List.mem_of_getElem? (i := 21) rfl)) rfl (lv_at hl 0 rfl) ?_
      refine sk_getr (b := 1) S hK hw kdn_0 (kd_in kdn_0) (C := RX11) (T := TX11) (N := 8) rfl hI11 0 ⟨by decide, rfl, by decide, rfl⟩ rfl (k' := 0) rfl rfl (by decide +kernel) hL0 (okX11_feed (41, .getfield 10, 3) (List.mem_of_getElem? (i := 22) rfl)) ?_
      refine sk_ci (sk_runV (a := 1) (C := RX10) (As := []) (rest := []) S (c_Tape_size l G hM) sk_blind gX11_feed_X10_size rfl hdX10_size ⟨⟨rfl, rfl⟩, Nat.le_of_ble_eq_true rfl, Nat.le_of_ble_eq_true rfl⟩ (sk_recv hK hw kdn_1 (kd_in kdn_1) (by decide) rfl) (sk_pre hK hw) rfl hl.1 rfl (Nat.le_of_ble_eq_true rfl) (okX11_feed (44, .invokevirtual 95, 3) (List.mem_of_getElem? (i := 23) rfl)) ⟨Nat.zero_le _, Nat.zero_le _⟩) hw (fun r_44 I_44 H locs hr_r_44 hM hw => ?_)
      exact sk_iret hx hb hr0 hlocks hK hw hr_r_44 hM (okX11_feed (47, .ireturn, 1) (List.mem_of_getElem? (i := 24) rfl))
    · have hM := hM.2 c25
      refine lv_bipush (v := iI (-4)) hx hb (okX11_feed (28, .bipush (-4), 2) (List.mem_of_getElem? (i := 14) rfl)) (by decide +kernel) ?_
      exact sk_iret hx hb hr0 hlocks hK hw (by decide) hM (okX11_feed (30, .ireturn, 1) (List.mem_of_getElem? (i := 15) rfl))
  · have hM := hM.2 c7
    refine lv_bipush (v := iI (-2)) hx hb (okX11_feed (10, .bipush (-2), 2) (List.mem_of_getElem? (i := 5) rfl)) (by decide +kernel) ?_
    exact sk_iret hx hb hr0 hlocks hK hw (by decide) hM (okX11_feed (12, .ireturn, 1) (List.mem_of_getElem? (i := 6) rfl))
def rmX11_figure : Room := { frames := 6, cells := 0, slots := 0, locals := 331 }
set_option maxHeartbeats 4000000 in
set_option maxRecDepth 100000 in
theorem c_Sky_figure (l : Launch) (G : sk_G) {Q : Int → sk_S → Prop} {I : sk_S} (hM : M_Sky_figure Q I) : Met l yX11_figure wsX11_figure rmX11_figure (va_Pc [.ref (sk_ad G 0)] (sk_U G 198 sk_t I)) (sk_Qi G 198 sk_t Q) 0 0 (sk_A G) := by
  refine Met.ofW (cc := cX11_figure) (maxL := 2) (ret := (some .int)) (by decide) rfl ?_
  intro p e s m args below meth c s₁ B hml hv
  obtain ⟨rfl, hU, hK⟩ := hv
  have hx := B.exec
  have hb := B.bytes
  have hr0 := B.returns
  have hts := atoms_spec (ws := wsX11_figure) B.pre
  have hown : s.vm.findClass RX11 = some m.cls := findClass_of_methodNamed B.named
  have hlocks := B.notSynchronized
  have S : CallFix p m c cX11_figure 2 s ([.ref (sk_ad G 0)].toArray) wsX11_figure RX11 := ⟨hx, hb, hml, hown, hts⟩
  have hL0 := hts (.fieldLink RX11 19 "SkyLights" "gallery" "LSkyLights$Gallery;") (by decide +kernel)
  have hL1 := hts (.fieldLink RX11 10 "SkyLights" "tape" "LSkyLights$Tape;") (by decide +kernel)
  have hI11 : ∀ w ∈ u_ws RX11 TX11 8, w ∈ wsX11_figure := by decide +kernel
  have hw : sk_W G 198 sk_t I s s.heap [] := ⟨hU, va_S.rf⟩
  have hl := lv_entry ([.ref (sk_ad G 0)]) (n := 2) (Nat.le_of_ble_eq_true rfl)
  rw [lg_entry_eq]
  generalize (lg_sl ([.ref (sk_ad G 0)]) ++ List.replicate (2 - (lg_sl ([.ref (sk_ad G 0)])).length) Slot.unset).toArray = ls at hl ⊢
  have hl : lv_has ls 2 [(0, .ref (sk_ad G 0))] := hl
  suffices hgo : ∀ (H : Heap) (locs : List Loc), sk_W G 198 sk_t I s H locs → W p l e (headSpec wsX11_figure rmX11_figure).room s m ([.ref (sk_ad G 0)].toArray) below meth c H locs 0 0 (MQ below (sk_Qi G 198 sk_t Q) ([.ref (sk_ad G 0)].toArray) s 0 0 (sk_A G)) (F0 m 0 ls []) from hgo _ _ hw
  unfold M_Sky_figure at hM
  intro H locs hw
  refine lv_aload_n hx hb (okX11_figure (0, .aload_n 0, 1) (List.mem_of_getElem? (i := 0) rfl)) rfl (lv_at hl 0 rfl) ?_
  refine sk_getr (b := 4) S hK hw kdn_0 (kd_in kdn_0) (C := RX11) (T := TX11) (N := 8) rfl hI11 1 ⟨by decide, rfl, by decide, rfl⟩ rfl (k' := 1) rfl rfl (by decide +kernel) hL0 (okX11_figure (1, .getfield 19, 3) (List.mem_of_getElem? (i := 1) rfl)) ?_
  refine sk_ci (sk_runV (a := 4) (C := RX2) (As := []) (rest := []) S (c_Gallery_size l G hM) sk_blind gX11_figure_X2_size rfl hdX2_size ⟨⟨rfl, rfl⟩, Nat.le_of_ble_eq_true rfl, Nat.le_of_ble_eq_true rfl⟩ (sk_recv hK hw kdn_4 (kd_in kdn_4) (by decide) rfl) (sk_pre hK hw) rfl hl.1 rfl (Nat.le_of_ble_eq_true rfl) (okX11_figure (4, .invokevirtual 99, 3) (List.mem_of_getElem? (i := 2) rfl)) ⟨Nat.zero_le _, Nat.zero_le _⟩) hw (fun r_4 I_4 H locs hr_r_4 hM hw => ?_)
  refine lv_bipush (v := iI 8) hx hb (okX11_figure (7, .bipush 8, 2) (List.mem_of_getElem? (i := 3) rfl)) (by decide +kernel) ?_
  refine sk_icmp_lt (tgt := 15) hx hb hr_r_4 (by decide) (okX11_figure (9, .if_icmp .lt 6, 3) (List.mem_of_getElem? (i := 4) rfl)) (by decide) (fun c9 => ?_) (fun c9 => ?_)
  · have hM := hM.1 c9
    refine lv_aload_n hx hb (okX11_figure (15, .aload_n 0, 1) (List.mem_of_getElem? (i := 7) rfl)) rfl (lv_at hl 0 rfl) ?_
    refine sk_getr (b := 1) S hK hw kdn_0 (kd_in kdn_0) (C := RX11) (T := TX11) (N := 8) rfl hI11 0 ⟨by decide, rfl, by decide, rfl⟩ rfl (k' := 0) rfl rfl (by decide +kernel) hL1 (okX11_figure (16, .getfield 10, 3) (List.mem_of_getElem? (i := 8) rfl)) ?_
    refine lv_aload_n hx hb (okX11_figure (19, .aload_n 0, 1) (List.mem_of_getElem? (i := 9) rfl)) rfl (lv_at hl 0 rfl) ?_
    refine sk_getr (b := 4) S hK hw kdn_0 (kd_in kdn_0) (C := RX11) (T := TX11) (N := 8) rfl hI11 1 ⟨by decide, rfl, by decide, rfl⟩ rfl (k' := 1) rfl rfl (by decide +kernel) hL0 (okX11_figure (20, .getfield 19, 3) (List.mem_of_getElem? (i := 10) rfl)) ?_
    refine sk_cr (sk_runV (a := 4) (C := RX2) (As := []) (rest := [.ref (sk_ad G 1)]) S (c_Gallery_spare l G hM) sk_blind gX11_figure_X2_spare rfl hdX2_spare ⟨⟨rfl, rfl⟩, Nat.le_of_ble_eq_true rfl, Nat.le_of_ble_eq_true rfl⟩ (sk_recv hK hw kdn_4 (kd_in kdn_4) (by decide) rfl) (sk_pre hK hw) rfl hl.1 rfl (Nat.le_of_ble_eq_true rfl) (okX11_figure (23, .invokevirtual 100, 3) (List.mem_of_getElem? (i := 11) rfl)) ⟨Nat.zero_le _, Nat.zero_le _⟩) hw (fun r_23 I_23 H locs hk_r_23 hM hw => ?_)
    refine sk_ci (sk_runV (a := 1) (C := RX10) (As := [.ref (sk_ad G r_23)]) (rest := []) S (c_Tape_read l G hk_r_23 hM) sk_blind gX11_figure_X10_read rfl hdX10_read ⟨⟨rfl, rfl⟩, Nat.le_of_ble_eq_true rfl, Nat.le_of_ble_eq_true rfl⟩ (sk_recv hK hw kdn_1 (kd_in kdn_1) (by decide) rfl) (sk_pre hK hw) rfl hl.1 rfl (Nat.le_of_ble_eq_true rfl) (okX11_figure (26, .invokevirtual 104, 3) (List.mem_of_getElem? (i := 12) rfl)) ⟨Nat.zero_le _, Nat.zero_le _⟩) hw (fun r_26 I_26 H locs hr_r_26 hM hw => ?_)
    refine lv_istore_n (lv' := [(1, .int (iI r_26)), (0, .ref (sk_ad G 0))]) hx hb (okX11_figure (29, .istore_n 1, 1) (List.mem_of_getElem? (i := 13) rfl)) rfl hl (by decide) rfl (fun ls hl => ?_)
    refine lv_aload_n hx hb (okX11_figure (30, .aload_n 0, 1) (List.mem_of_getElem? (i := 14) rfl)) rfl (lv_at hl 1 rfl) ?_
    refine sk_getr (b := 1) S hK hw kdn_0 (kd_in kdn_0) (C := RX11) (T := TX11) (N := 8) rfl hI11 0 ⟨by decide, rfl, by decide, rfl⟩ rfl (k' := 0) rfl rfl (by decide +kernel) hL1 (okX11_figure (31, .getfield 10, 3) (List.mem_of_getElem? (i := 15) rfl)) ?_
    refine sk_cv (sk_runV (a := 1) (C := RX10) (As := []) (rest := []) S (c_Tape_empty l G hM) sk_blind gX11_figure_X10_empty rfl hdX10_empty ⟨⟨rfl, rfl⟩, Nat.le_of_ble_eq_true rfl, Nat.le_of_ble_eq_true rfl⟩ (sk_recv hK hw kdn_1 (kd_in kdn_1) (by decide) rfl) (sk_pre hK hw) rfl hl.1 rfl (Nat.le_of_ble_eq_true rfl) (okX11_figure (34, .invokevirtual 108, 3) (List.mem_of_getElem? (i := 16) rfl)) ⟨Nat.zero_le _, Nat.zero_le _⟩) hw (fun I_34 H locs hM hw => ?_)
    refine lv_iload_n hx hb (okX11_figure (37, .iload_n 1, 1) (List.mem_of_getElem? (i := 17) rfl)) rfl (lv_at hl 0 rfl) ?_
    refine lv_iconst (v := iI (-1)) hx hb (okX11_figure (38, .iconst (-1), 1) (List.mem_of_getElem? (i := 18) rfl)) rfl ?_
    refine sk_icmp_ne (tgt := 52) hx hb hr_r_26 (by decide) (okX11_figure (39, .if_icmp .ne 13, 3) (List.mem_of_getElem? (i := 19) rfl)) (by decide) (fun c39 => ?_) (fun c39 => ?_)
    · have hM := hM.1 c39
      refine lv_bipush (v := iI (-10)) hx hb (okX11_figure (52, .bipush (-10), 2) (List.mem_of_getElem? (i := 24) rfl)) (by decide +kernel) ?_
      refine lv_iload_n hx hb (okX11_figure (54, .iload_n 1, 1) (List.mem_of_getElem? (i := 25) rfl)) rfl (lv_at hl 0 rfl) ?_
      refine sk_isub hx hb (okX11_figure (55, .isub, 1) (List.mem_of_getElem? (i := 26) rfl)) ?_
      obtain ⟨hr1, hM⟩ := hM
      exact sk_iret hx hb hr0 hlocks hK hw hr1 hM (okX11_figure (56, .ireturn, 1) (List.mem_of_getElem? (i := 27) rfl))
    · have hM := hM.2 c39
      refine lv_aload_n hx hb (okX11_figure (42, .aload_n 0, 1) (List.mem_of_getElem? (i := 20) rfl)) rfl (lv_at hl 1 rfl) ?_
      refine sk_getr (b := 4) S hK hw kdn_0 (kd_in kdn_0) (C := RX11) (T := TX11) (N := 8) rfl hI11 1 ⟨by decide, rfl, by decide, rfl⟩ rfl (k' := 1) rfl rfl (by decide +kernel) hL0 (okX11_figure (43, .getfield 19, 3) (List.mem_of_getElem? (i := 21) rfl)) ?_
      refine sk_ci (sk_runV (a := 4) (C := RX2) (As := []) (rest := []) S (c_Gallery_keepSpare l G hM) sk_blind gX11_figure_X2_keepSpare rfl hdX2_keepSpare ⟨⟨rfl, rfl⟩, Nat.le_of_ble_eq_true rfl, Nat.le_of_ble_eq_true rfl⟩ (sk_recv hK hw kdn_4 (kd_in kdn_4) (by decide) rfl) (sk_pre hK hw) rfl hl.1 rfl (Nat.le_of_ble_eq_true rfl) (okX11_figure (46, .invokevirtual 111, 3) (List.mem_of_getElem? (i := 22) rfl)) ⟨Nat.zero_le _, Nat.zero_le _⟩) hw (fun r_46 I_46 H locs hr_r_46 hM hw => ?_)
      refine lv_goto (tgt := 56) hx hb (okX11_figure (49, .goto 7, 3) (List.mem_of_getElem? (i := 23) rfl)) (by decide) ?_
      exact sk_iret hx hb hr0 hlocks hK hw hr_r_46 hM (okX11_figure (56, .ireturn, 1) (List.mem_of_getElem? (i := 27) rfl))
  · have hM := hM.2 c9
    refine lv_bipush (v := iI (-4)) hx hb (okX11_figure (12, .bipush (-4), 2) (List.mem_of_getElem? (i := 5) rfl)) (by decide +kernel) ?_
    exact sk_iret hx hb hr0 hlocks hK hw (by decide) hM (okX11_figure (14, .ireturn, 1) (List.mem_of_getElem? (i := 6) rfl))
def rmX11_first : Room := { frames := 6, cells := 0, slots := 0, locals := 334 }
set_option maxHeartbeats 4000000 in
set_option maxRecDepth 100000 in
theorem c_Sky_first (l : Launch) (G : sk_G) {Q : Int → sk_S → Prop} {I : sk_S} (hM : M_Sky_first Q I) : Met l yX11_first wsX11_first rmX11_first (va_Pc [.ref (sk_ad G 0)] (sk_U G 198 sk_t I)) (sk_Qi G 198 sk_t Q) 0 0 (sk_A G) := by
  refine Met.ofW (cc := cX11_first) (maxL := 1) (ret := (some .int)) (by decide) rfl ?_
  intro p e s m args below meth c s₁ B hml hv
  obtain ⟨rfl, hU, hK⟩ := hv
  have hx := B.exec
  have hb := B.bytes
  have hr0 := B.returns
  have hts := atoms_spec (ws := wsX11_first) B.pre
  have hown : s.vm.findClass RX11 = some m.cls := findClass_of_methodNamed B.named
  have hlocks := B.notSynchronized
  have S : CallFix p m c cX11_first 1 s ([.ref (sk_ad G 0)].toArray) wsX11_first RX11 := ⟨hx, hb, hml, hown, hts⟩
  have hL0 := hts (.fieldLink RX11 61 "SkyLights" "foreign" "LSkyLights$Foreign;") (by decide +kernel)
  have hL1 := hts (.fieldLink RX11 26 "SkyLights" "air" "LSkyLights$Air;") (by decide +kernel)
  have hI11 : ∀ w ∈ u_ws RX11 TX11 8, w ∈ wsX11_first := by decide +kernel
  have hw : sk_W G 198 sk_t I s s.heap [] := ⟨hU, va_S.rf⟩
  have hl := lv_entry ([.ref (sk_ad G 0)]) (n := 1) (Nat.le_of_ble_eq_true rfl)
  rw [lg_entry_eq]
  generalize (lg_sl ([.ref (sk_ad G 0)]) ++ List.replicate (1 - (lg_sl ([.ref (sk_ad G 0)])).length) Slot.unset).toArray = ls at hl ⊢
  have hl : lv_has ls 1 [(0, .ref (sk_ad G 0))] := hl
  suffices hgo : ∀ (H : Heap) (locs : List Loc), sk_W G 198 sk_t I s H locs → W p l e (headSpec wsX11_first rmX11_first).room s m ([.ref (sk_ad G 0)].toArray) below meth c H locs 0 0 (MQ below (sk_Qi G 198 sk_t Q) ([.ref (sk_ad G 0)].toArray) s 0 0 (sk_A G)) (F0 m 0 ls []) from hgo _ _ hw
  unfold M_Sky_first at hM
  intro H locs hw
  refine lv_aload_n hx hb (okX11_first (0, .aload_n 0, 1) (List.mem_of_getElem? (i := 0) rfl)) rfl (lv_at hl 0 rfl) ?_
  refine sk_getr (b := 149) S hK hw kdn_0 (kd_in kdn_0) (C := RX11) (T := TX11) (N := 8) rfl hI11 7 ⟨by decide, rfl, by decide, rfl⟩ rfl (k' := 7) rfl rfl (by decide +kernel) hL0 (okX11_first (1, .getfield 61, 3) (List.mem_of_getElem? (i := 1) rfl)) ?_
  refine lv_aload_n hx hb (okX11_first (4, .aload_n 0, 1) (List.mem_of_getElem? (i := 2) rfl)) rfl (lv_at hl 0 rfl) ?_
  refine sk_getr (b := 36) S hK hw kdn_0 (kd_in kdn_0) (C := RX11) (T := TX11) (N := 8) rfl hI11 2 ⟨by decide, rfl, by decide, rfl⟩ rfl (k' := 2) rfl rfl (by decide +kernel) hL1 (okX11_first (5, .getfield 26, 3) (List.mem_of_getElem? (i := 3) rfl)) ?_
  refine sk_ci (sk_runV (a := 149) (C := RX1) (As := [.ref (sk_ad G 36)]) (rest := []) S (c_Foreign_firstClash l G hM) sk_blind gX11_first_X1_firstClash rfl hdX1_firstClash ⟨⟨rfl, rfl⟩, Nat.le_of_ble_eq_true rfl, Nat.le_of_ble_eq_true rfl⟩ (sk_recv hK hw kdn_149 (kd_in kdn_149) (by decide) rfl) (sk_pre hK hw) rfl hl.1 rfl (Nat.le_of_ble_eq_true rfl) (okX11_first (8, .invokevirtual 249, 3) (List.mem_of_getElem? (i := 4) rfl)) ⟨Nat.zero_le _, Nat.zero_le _⟩) hw (fun r_8 I_8 H locs hr_r_8 hM hw => ?_)
  exact sk_iret hx hb hr0 hlocks hK hw hr_r_8 hM (okX11_first (11, .ireturn, 1) (List.mem_of_getElem? (i := 5) rfl))
def rmX11_isAcross : Room := { frames := 1, cells := 0, slots := 0, locals := 54 }
set_option maxHeartbeats 4000000 in
set_option maxRecDepth 100000 in
theorem c_Sky_isAcross (l : Launch) (G : sk_G) {p0 : Int} (hr_p0 : rI p0) {Q : Int → sk_S → Prop} {I : sk_S} (hM : M_Sky_isAcross p0 Q I) : Met l yX11_isAcross wsX11_isAcross rmX11_isAcross (va_Pc [.int (iI p0)] (sk_U G 198 sk_t I)) (sk_Qz G 198 sk_t Q) 0 0 (sk_A G) := by
  refine Met.ofW (cc := cX11_isAcross) (maxL := 1) (ret := (some .boolean)) (by decide) rfl ?_
  intro p e s m args below meth c s₁ B hml hv
  obtain ⟨rfl, hU, hK⟩ := hv
  have hx := B.exec
  have hb := B.bytes
  have hr0 := B.returns
  have hts := atoms_spec (ws := wsX11_isAcross) B.pre
  have hown : s.vm.findClass RX11 = some m.cls := findClass_of_methodNamed B.named
  have hlocks := B.notSynchronized
  have S : CallFix p m c cX11_isAcross 1 s ([.int (iI p0)].toArray) wsX11_isAcross RX11 := ⟨hx, hb, hml, hown, hts⟩
  have hw : sk_W G 198 sk_t I s s.heap [] := ⟨hU, va_S.rf⟩
  have hl := lv_entry ([.int (iI p0)]) (n := 1) (Nat.le_of_ble_eq_true rfl)
  rw [lg_entry_eq]
  generalize (lg_sl ([.int (iI p0)]) ++ List.replicate (1 - (lg_sl ([.int (iI p0)])).length) Slot.unset).toArray = ls at hl ⊢
  have hl : lv_has ls 1 [(0, .int (iI p0))] := hl
  suffices hgo : ∀ (H : Heap) (locs : List Loc), sk_W G 198 sk_t I s H locs → W p l e (headSpec wsX11_isAcross rmX11_isAcross).room s m ([.int (iI p0)].toArray) below meth c H locs 0 0 (MQ below (sk_Qz G 198 sk_t Q) ([.int (iI p0)].toArray) s 0 0 (sk_A G)) (F0 m 0 ls []) from hgo _ _ hw
  unfold M_Sky_isAcross at hM
  intro H locs hw
  refine lv_iload_n hx hb (okX11_isAcross (0, .iload_n 0, 1) (List.mem_of_getElem? (i := 0) rfl)) rfl (lv_at hl 0 rfl) ?_
  refine lv_sipush (v := iI (-200)) hx hb (okX11_isAcross (1, .sipush (-200), 3) (List.mem_of_getElem? (i := 1) rfl)) (by decide +kernel) ?_
  refine lv_sipush (v := iI 200) hx hb (okX11_isAcross (4, .sipush 200, 3) (List.mem_of_getElem? (i := 2) rfl)) (by decide +kernel) ?_
  refine sk_ci (sk_runS (As := [.int (iI p0), .int (iI ((-200))), .int (iI 200)]) (rest := []) S (c_Sky_isWithin l G hr_p0 (by decide) (by decide) hM) sk_blind gX11_isAcross_X11_isWithin rfl hdX11_isWithin ⟨⟨rfl, rfl⟩, Nat.le_of_ble_eq_true rfl, Nat.le_of_ble_eq_true rfl⟩ (sk_pre hK hw) rfl hl.1 rfl (Nat.le_of_ble_eq_true rfl) (okX11_isAcross (7, .invokestatic 70, 3) (List.mem_of_getElem? (i := 3) rfl)) ⟨Nat.zero_le _, Nat.zero_le _⟩) hw (fun r_7 I_7 H locs hr_r_7 hM hw => ?_)
  obtain ⟨hb_r_7, hM⟩ := hM
  exact sk_zret hx hb hr0 hlocks hK hw hb_r_7 hM (okX11_isAcross (10, .ireturn, 1) (List.mem_of_getElem? (i := 4) rfl))
def rmX11_flyer : Room := { frames := 2, cells := 0, slots := 0, locals := 110 }
set_option maxHeartbeats 4000000 in
set_option maxRecDepth 100000 in
theorem c_Sky_flyer (l : Launch) (G : sk_G) {p1 p2 p3 : Int} (hr_p1 : rI p1) (hr_p2 : rI p2) (hr_p3 : rI p3) {Q : Int → sk_S → Prop} {I : sk_S} (hM : M_Sky_flyer p1 p2 p3 Q I) : Met l yX11_flyer wsX11_flyer rmX11_flyer (va_Pc [.ref (sk_ad G 0), .int (iI p1), .int (iI p2), .int (iI p3)] (sk_U G 198 sk_t I)) (sk_Qi G 198 sk_t Q) 0 0 (sk_A G) := by
  refine Met.ofW (cc := cX11_flyer) (maxL := 5) (ret := (some .int)) (by decide) rfl ?_
  intro p e s m args below meth c s₁ B hml hv
  obtain ⟨rfl, hU, hK⟩ := hv
  have hx := B.exec
  have hb := B.bytes
  have hr0 := B.returns
  have hts := atoms_spec (ws := wsX11_flyer) B.pre
  have hown : s.vm.findClass RX11 = some m.cls := findClass_of_methodNamed B.named
  have hlocks := B.notSynchronized
  have S : CallFix p m c cX11_flyer 5 s ([.ref (sk_ad G 0), .int (iI p1), .int (iI p2), .int (iI p3)].toArray) wsX11_flyer RX11 := ⟨hx, hb, hml, hown, hts⟩
  have hL0 := hts (.constant RX11 69 (100000)) (by decide +kernel)
  have hL1 := hts (.fieldLink RX11 54 "SkyLights" "show" "LSkyLights$Show;") (by decide +kernel)
  have hL2 := hts (.fieldLink RX11 19 "SkyLights" "gallery" "LSkyLights$Gallery;") (by decide +kernel)
  have hI11 : ∀ w ∈ u_ws RX11 TX11 8, w ∈ wsX11_flyer := by decide +kernel
  have hw : sk_W G 198 sk_t I s s.heap [] := ⟨hU, va_S.rf⟩
  have hl := lv_entry ([.ref (sk_ad G 0), .int (iI p1), .int (iI p2), .int (iI p3)]) (n := 5) (Nat.le_of_ble_eq_true rfl)
  rw [lg_entry_eq]
  generalize (lg_sl ([.ref (sk_ad G 0), .int (iI p1), .int (iI p2), .int (iI p3)]) ++ List.replicate (5 - (lg_sl ([.ref (sk_ad G 0), .int (iI p1), .int (iI p2), .int (iI p3)])).length) Slot.unset).toArray = ls at hl ⊢
  have hl : lv_has ls 5 [(0, .ref (sk_ad G 0)), (1, .int (iI p1)), (2, .int (iI p2)), (3, .int (iI p3))] := hl
  suffices hgo : ∀ (H : Heap) (locs : List Loc), sk_W G 198 sk_t I s H locs → W p l e (headSpec wsX11_flyer rmX11_flyer).room s m ([.ref (sk_ad G 0), .int (iI p1), .int (iI p2), .int (iI p3)].toArray) below meth c H locs 0 0 (MQ below (sk_Qi G 198 sk_t Q) ([.ref (sk_ad G 0), .int (iI p1), .int (iI p2), .int (iI p3)].toArray) s 0 0 (sk_A G)) (F0 m 0 ls []) from hgo _ _ hw
  unfold M_Sky_flyer at hM
  intro H locs hw
  refine lv_iload_n hx hb (okX11_flyer (0, .iload_n 1, 1) (List.mem_of_getElem? (i := 0) rfl)) rfl (lv_at hl 1 rfl) ?_
  refine sk_ci (sk_runS (As := [.int (iI p1)]) (rest := []) S (c_Sky_isAcross l G hr_p1 hM) sk_blind gX11_flyer_X11_isAcross rfl hdX11_isAcross ⟨⟨rfl, rfl⟩, Nat.le_of_ble_eq_true rfl, Nat.le_of_ble_eq_true rfl⟩ (sk_pre hK hw) rfl hl.1 rfl (Nat.le_of_ble_eq_true rfl) (okX11_flyer (1, .invokestatic 65, 3) (List.mem_of_getElem? (i := 1) rfl)) ⟨Nat.zero_le _, Nat.zero_le _⟩) hw (fun r_1 I_1 H locs hr_r_1 hM hw => ?_)
  obtain ⟨hb_r_1, hM⟩ := hM
  refine sk_if_eq (tgt := 24) hx hb hr_r_1 (okX11_flyer (4, .ifCond .eq 20, 3) (List.mem_of_getElem? (i := 2) rfl)) (by decide) (fun c4 => ?_) (fun c4 => ?_)
  · have hM := hM.1 c4
    refine lv_bipush (v := iI (-2)) hx hb (okX11_flyer (24, .bipush (-2), 2) (List.mem_of_getElem? (i := 11) rfl)) (by decide +kernel) ?_
    exact sk_iret hx hb hr0 hlocks hK hw (by decide) hM (okX11_flyer (26, .ireturn, 1) (List.mem_of_getElem? (i := 12) rfl))
  · have hM := hM.2 c4
    refine lv_iload_n hx hb (okX11_flyer (7, .iload_n 2, 1) (List.mem_of_getElem? (i := 3) rfl)) rfl (lv_at hl 2 rfl) ?_
    refine sk_ci (sk_runS (As := [.int (iI p2)]) (rest := []) S (c_Sky_isAcross l G hr_p2 hM) sk_blind gX11_flyer_X11_isAcross rfl hdX11_isAcross ⟨⟨rfl, rfl⟩, Nat.le_of_ble_eq_true rfl, Nat.le_of_ble_eq_true rfl⟩ (sk_pre hK hw) rfl hl.1 rfl (Nat.le_of_ble_eq_true rfl) (okX11_flyer (8, .invokestatic 65, 3) (List.mem_of_getElem? (i := 4) rfl)) ⟨Nat.zero_le _, Nat.zero_le _⟩) hw (fun r_8 I_8 H locs hr_r_8 hM hw => ?_)
    obtain ⟨hb_r_8, hM⟩ := hM
    refine sk_if_eq (tgt := 24) hx hb hr_r_8 (okX11_flyer (11, .ifCond .eq 13, 3) (List.mem_of_getElem? (i := 5) rfl)) (by decide) (fun c11 => ?_) (fun c11 => ?_)
    · have hM := hM.1 c11
      refine lv_bipush (v := iI (-2)) hx hb (okX11_flyer (24, .bipush (-2), 2) (List.mem_of_getElem? (i := 11) rfl)) (by decide +kernel) ?_
      exact sk_iret hx hb hr0 hlocks hK hw (by decide) hM (okX11_flyer (26, .ireturn, 1) (List.mem_of_getElem? (i := 12) rfl))
    · have hM := hM.2 c11
      refine lv_iload_n hx hb (okX11_flyer (14, .iload_n 3, 1) (List.mem_of_getElem? (i := 6) rfl)) rfl (lv_at hl 3 rfl) ?_
      refine lv_iconst (v := iI 0) hx hb (okX11_flyer (15, .iconst 0, 1) (List.mem_of_getElem? (i := 7) rfl)) rfl ?_
      refine lv_ldc (v := iI 100000) hx hb hown (by rw [show iI 100000 = (100000 : Int32) from by decide +kernel]; exact hL0) (okX11_flyer (16, .ldc 69, 2) (List.mem_of_getElem? (i := 8) rfl)) ?_
      refine sk_ci (sk_runS (As := [.int (iI p3), .int (iI 0), .int (iI 100000)]) (rest := []) S (c_Sky_isWithin l G hr_p3 (by decide) (by decide) hM) sk_blind gX11_flyer_X11_isWithin rfl hdX11_isWithin ⟨⟨rfl, rfl⟩, Nat.le_of_ble_eq_true rfl, Nat.le_of_ble_eq_true rfl⟩ (sk_pre hK hw) rfl hl.1 rfl (Nat.le_of_ble_eq_true rfl) (okX11_flyer (18, .invokestatic 70, 3) (List.mem_of_getElem? (i := 9) rfl)) ⟨Nat.zero_le _, Nat.zero_le _⟩) hw (fun r_18 I_18 H locs hr_r_18 hM hw => ?_)
      obtain ⟨hb_r_18, hM⟩ := hM
      refine sk_if_ne (tgt := 27) hx hb hr_r_18 (okX11_flyer (21, .ifCond .ne 6, 3) (List.mem_of_getElem? (i := 10) rfl)) (by decide) (fun c21 => ?_) (fun c21 => ?_)
      · have hM := hM.1 c21
        refine lv_aload_n hx hb (okX11_flyer (27, .aload_n 0, 1) (List.mem_of_getElem? (i := 13) rfl)) rfl (lv_at hl 0 rfl) ?_
        refine sk_getr (b := 54) S hK hw kdn_0 (kd_in kdn_0) (C := RX11) (T := TX11) (N := 8) rfl hI11 6 ⟨by decide, rfl, by decide, rfl⟩ rfl (k' := 6) rfl rfl (by decide +kernel) hL1 (okX11_flyer (28, .getfield 54, 3) (List.mem_of_getElem? (i := 14) rfl)) ?_
        refine sk_ci (sk_runV (a := 54) (C := RX9) (As := []) (rest := []) S (c_Show_size l G hM) sk_blind gX11_flyer_X9_size rfl hdX9_size ⟨⟨rfl, rfl⟩, Nat.le_of_ble_eq_true rfl, Nat.le_of_ble_eq_true rfl⟩ (sk_recv hK hw kdn_54 (kd_in kdn_54) (by decide) rfl) (sk_pre hK hw) rfl hl.1 rfl (Nat.le_of_ble_eq_true rfl) (okX11_flyer (31, .invokevirtual 74, 3) (List.mem_of_getElem? (i := 15) rfl)) ⟨Nat.zero_le _, Nat.zero_le _⟩) hw (fun r_31 I_31 H locs hr_r_31 hM hw => ?_)
        refine sk_if_le (tgt := 40) hx hb hr_r_31 (okX11_flyer (34, .ifCond .le 6, 3) (List.mem_of_getElem? (i := 16) rfl)) (by decide) (fun c34 => ?_) (fun c34 => ?_)
        · have hM := hM.1 c34
          refine lv_aload_n hx hb (okX11_flyer (40, .aload_n 0, 1) (List.mem_of_getElem? (i := 19) rfl)) rfl (lv_at hl 0 rfl) ?_
          refine sk_ci (sk_runV (a := 0) (C := RX11) (As := []) (rest := []) S (c_Sky_flyers l G hM) sk_blind gX11_flyer_X11_flyers rfl hdX11_flyers ⟨⟨rfl, rfl⟩, Nat.le_of_ble_eq_true rfl, Nat.le_of_ble_eq_true rfl⟩ (sk_recv hK hw kdn_0 (kd_in kdn_0) (by decide) rfl) (sk_pre hK hw) rfl hl.1 rfl (Nat.le_of_ble_eq_true rfl) (okX11_flyer (41, .invokevirtual 78, 3) (List.mem_of_getElem? (i := 20) rfl)) ⟨Nat.zero_le _, Nat.zero_le _⟩) hw (fun r_41 I_41 H locs hr_r_41 hM hw => ?_)
          refine lv_istore (lv' := [(4, .int (iI r_41)), (0, .ref (sk_ad G 0)), (1, .int (iI p1)), (2, .int (iI p2)), (3, .int (iI p3))]) hx hb (okX11_flyer (44, .istore 4, 2) (List.mem_of_getElem? (i := 21) rfl)) hl (by decide) rfl (fun ls hl => ?_)
          refine lv_iload hx hb (okX11_flyer (46, .iload 4, 2) (List.mem_of_getElem? (i := 22) rfl)) (lv_at hl 0 rfl) ?_
          refine lv_bipush (v := iI 10) hx hb (okX11_flyer (48, .bipush 10, 2) (List.mem_of_getElem? (i := 23) rfl)) (by decide +kernel) ?_
          refine sk_icmp_lt (tgt := 56) hx hb hr_r_41 (by decide) (okX11_flyer (50, .if_icmp .lt 6, 3) (List.mem_of_getElem? (i := 24) rfl)) (by decide) (fun c50 => ?_) (fun c50 => ?_)
          · have hM := hM.1 c50
            refine lv_aload_n hx hb (okX11_flyer (56, .aload_n 0, 1) (List.mem_of_getElem? (i := 27) rfl)) rfl (lv_at hl 1 rfl) ?_
            refine sk_getr (b := 4) S hK hw kdn_0 (kd_in kdn_0) (C := RX11) (T := TX11) (N := 8) rfl hI11 1 ⟨by decide, rfl, by decide, rfl⟩ rfl (k' := 1) rfl rfl (by decide +kernel) hL2 (okX11_flyer (57, .getfield 19, 3) (List.mem_of_getElem? (i := 28) rfl)) ?_
            refine lv_iconst (v := iI (-1)) hx hb (okX11_flyer (60, .iconst (-1), 1) (List.mem_of_getElem? (i := 29) rfl)) rfl ?_
            refine sk_cr (sk_runV (a := 4) (C := RX2) (As := [.int (iI ((-1)))]) (rest := []) S (c_Gallery_at l G (by decide) hM) sk_blind gX11_flyer_X2_at rfl hdX2_at ⟨⟨rfl, rfl⟩, Nat.le_of_ble_eq_true rfl, Nat.le_of_ble_eq_true rfl⟩ (sk_recv hK hw kdn_4 (kd_in kdn_4) (by decide) rfl) (sk_pre hK hw) rfl hl.1 rfl (Nat.le_of_ble_eq_true rfl) (okX11_flyer (61, .invokevirtual 81, 3) (List.mem_of_getElem? (i := 30) rfl)) ⟨Nat.zero_le _, Nat.zero_le _⟩) hw (fun r_61 I_61 H locs hk_r_61 hM hw => ?_)
            refine lv_iload_n hx hb (okX11_flyer (64, .iload_n 1, 1) (List.mem_of_getElem? (i := 31) rfl)) rfl (lv_at hl 2 rfl) ?_
            refine lv_iload_n hx hb (okX11_flyer (65, .iload_n 2, 1) (List.mem_of_getElem? (i := 32) rfl)) rfl (lv_at hl 3 rfl) ?_
            refine lv_iconst (v := iI 0) hx hb (okX11_flyer (66, .iconst 0, 1) (List.mem_of_getElem? (i := 33) rfl)) rfl ?_
            refine lv_iconst (v := iI 0) hx hb (okX11_flyer (67, .iconst 0, 1) (List.mem_of_getElem? (i := 34) rfl)) rfl ?_
            refine sk_cv (sk_runV (a := r_61) (C := RX5) (As := [.int (iI p1), .int (iI p2), .int (iI 0), .int (iI 0)]) (rest := []) S (c_Places_add l G hk_r_61 hr_p1 hr_p2 (by decide) (by decide) hM) sk_blind gX11_flyer_X5_add rfl hdX5_add ⟨⟨rfl, rfl⟩, Nat.le_of_ble_eq_true rfl, Nat.le_of_ble_eq_true rfl⟩ (sk_recv hK hw hk_r_61 (kd_in hk_r_61) (by decide) rfl) (sk_pre hK hw) rfl hl.1 rfl (Nat.le_of_ble_eq_true rfl) (okX11_flyer (68, .invokevirtual 85, 3) (List.mem_of_getElem? (i := 35) rfl)) ⟨Nat.zero_le _, Nat.zero_le _⟩) hw (fun I_68 H locs hM hw => ?_)
            refine lv_aload_n hx hb (okX11_flyer (71, .aload_n 0, 1) (List.mem_of_getElem? (i := 36) rfl)) rfl (lv_at hl 1 rfl) ?_
            refine sk_getr (b := 54) S hK hw kdn_0 (kd_in kdn_0) (C := RX11) (T := TX11) (N := 8) rfl hI11 6 ⟨by decide, rfl, by decide, rfl⟩ rfl (k' := 6) rfl rfl (by decide +kernel) hL1 (okX11_flyer (72, .getfield 54, 3) (List.mem_of_getElem? (i := 37) rfl)) ?_
            refine lv_iload hx hb (okX11_flyer (75, .iload 4, 2) (List.mem_of_getElem? (i := 38) rfl)) (lv_at hl 0 rfl) ?_
            refine lv_iload_n hx hb (okX11_flyer (77, .iload_n 3, 1) (List.mem_of_getElem? (i := 39) rfl)) rfl (lv_at hl 4 rfl) ?_
            refine sk_cv (sk_runV (a := 54) (C := RX9) (As := [.int (iI r_41), .int (iI p3)]) (rest := []) S (c_Show_load l G hr_r_41 hr_p3 hM) sk_blind gX11_flyer_X9_load rfl hdX9_load ⟨⟨rfl, rfl⟩, Nat.le_of_ble_eq_true rfl, Nat.le_of_ble_eq_true rfl⟩ (sk_recv hK hw kdn_54 (kd_in kdn_54) (by decide) rfl) (sk_pre hK hw) rfl hl.1 rfl (Nat.le_of_ble_eq_true rfl) (okX11_flyer (78, .invokevirtual 91, 3) (List.mem_of_getElem? (i := 40) rfl)) ⟨Nat.zero_le _, Nat.zero_le _⟩) hw (fun I_78 H locs hM hw => ?_)
            refine lv_iload hx hb (okX11_flyer (81, .iload 4, 2) (List.mem_of_getElem? (i := 41) rfl)) (lv_at hl 0 rfl) ?_
            exact sk_iret hx hb hr0 hlocks hK hw hr_r_41 hM (okX11_flyer (83, .ireturn, 1) (List.mem_of_getElem? (i := 42) rfl))
          · have hM := hM.2 c50
            refine lv_bipush (v := iI (-4)) hx hb (okX11_flyer (53, .bipush (-4), 2) (List.mem_of_getElem? (i := 25) rfl)) (by decide +kernel) ?_
            exact sk_iret hx hb hr0 hlocks hK hw (by decide) hM (okX11_flyer (55, .ireturn, 1) (List.mem_of_getElem? (i := 26) rfl))
        · have hM := hM.2 c34
          refine lv_bipush (v := iI (-3)) hx hb (okX11_flyer (37, .bipush (-3), 2) (List.mem_of_getElem? (i := 17) rfl)) (by decide +kernel) ?_
          exact sk_iret hx hb hr0 hlocks hK hw (by decide) hM (okX11_flyer (39, .ireturn, 1) (List.mem_of_getElem? (i := 18) rfl))
      · have hM := hM.2 c21
        refine lv_bipush (v := iI (-2)) hx hb (okX11_flyer (24, .bipush (-2), 2) (List.mem_of_getElem? (i := 11) rfl)) (by decide +kernel) ?_
        exact sk_iret hx hb hr0 hlocks hK hw (by decide) hM (okX11_flyer (26, .ireturn, 1) (List.mem_of_getElem? (i := 12) rfl))
def rmX11_gap : Room := { frames := 1, cells := 0, slots := 0, locals := 54 }
set_option maxHeartbeats 4000000 in
set_option maxRecDepth 100000 in
theorem c_Sky_gap (l : Launch) (G : sk_G) {p1 : Int} (hr_p1 : rI p1) {Q : Int → sk_S → Prop} {I : sk_S} (hM : M_Sky_gap p1 Q I) : Met l yX11_gap wsX11_gap rmX11_gap (va_Pc [.ref (sk_ad G 0), .int (iI p1)] (sk_U G 198 sk_t I)) (sk_Qi G 198 sk_t Q) 0 0 (sk_A G) := by
  refine Met.ofW (cc := cX11_gap) (maxL := 3) (ret := (some .int)) (by decide) rfl ?_
  intro p e s m args below meth c s₁ B hml hv
  obtain ⟨rfl, hU, hK⟩ := hv
  have hx := B.exec
  have hb := B.bytes
  have hr0 := B.returns
  have hts := atoms_spec (ws := wsX11_gap) B.pre
  have hown : s.vm.findClass RX11 = some m.cls := findClass_of_methodNamed B.named
  have hlocks := B.notSynchronized
  have S : CallFix p m c cX11_gap 3 s ([.ref (sk_ad G 0), .int (iI p1)].toArray) wsX11_gap RX11 := ⟨hx, hb, hml, hown, hts⟩
  have hL0 := hts (.fieldLink RX11 26 "SkyLights" "air" "LSkyLights$Air;") (by decide +kernel)
  have hI0 : ∀ w ∈ u_ws RX0 TX0 4, w ∈ wsX11_gap := by decide +kernel
  have hI11 : ∀ w ∈ u_ws RX11 TX11 8, w ∈ wsX11_gap := by decide +kernel
  have hw : sk_W G 198 sk_t I s s.heap [] := ⟨hU, va_S.rf⟩
  have hl := lv_entry ([.ref (sk_ad G 0), .int (iI p1)]) (n := 3) (Nat.le_of_ble_eq_true rfl)
  rw [lg_entry_eq]
  generalize (lg_sl ([.ref (sk_ad G 0), .int (iI p1)]) ++ List.replicate (3 - (lg_sl ([.ref (sk_ad G 0), .int (iI p1)])).length) Slot.unset).toArray = ls at hl ⊢
  have hl : lv_has ls 3 [(0, .ref (sk_ad G 0)), (1, .int (iI p1))] := hl
  suffices hgo : ∀ (H : Heap) (locs : List Loc), sk_W G 198 sk_t I s H locs → W p l e (headSpec wsX11_gap rmX11_gap).room s m ([.ref (sk_ad G 0), .int (iI p1)].toArray) below meth c H locs 0 0 (MQ below (sk_Qi G 198 sk_t Q) ([.ref (sk_ad G 0), .int (iI p1)].toArray) s 0 0 (sk_A G)) (F0 m 0 ls []) from hgo _ _ hw
  unfold M_Sky_gap at hM
  intro H locs hw
  refine lv_iload_n hx hb (okX11_gap (0, .iload_n 1, 1) (List.mem_of_getElem? (i := 0) rfl)) rfl (lv_at hl 1 rfl) ?_
  refine lv_iconst (v := iI 0) hx hb (okX11_gap (1, .iconst 0, 1) (List.mem_of_getElem? (i := 1) rfl)) rfl ?_
  refine lv_bipush (v := iI 100) hx hb (okX11_gap (2, .bipush 100, 2) (List.mem_of_getElem? (i := 2) rfl)) (by decide +kernel) ?_
  refine sk_ci (sk_runS (As := [.int (iI p1), .int (iI 0), .int (iI 100)]) (rest := []) S (c_Sky_isWithin l G hr_p1 (by decide) (by decide) hM) sk_blind gX11_gap_X11_isWithin rfl hdX11_isWithin ⟨⟨rfl, rfl⟩, Nat.le_of_ble_eq_true rfl, Nat.le_of_ble_eq_true rfl⟩ (sk_pre hK hw) rfl hl.1 rfl (Nat.le_of_ble_eq_true rfl) (okX11_gap (4, .invokestatic 70, 3) (List.mem_of_getElem? (i := 3) rfl)) ⟨Nat.zero_le _, Nat.zero_le _⟩) hw (fun r_4 I_4 H locs hr_r_4 hM hw => ?_)
  obtain ⟨hb_r_4, hM⟩ := hM
  refine sk_if_ne (tgt := 13) hx hb hr_r_4 (okX11_gap (7, .ifCond .ne 6, 3) (List.mem_of_getElem? (i := 4) rfl)) (by decide) (fun c7 => ?_) (fun c7 => ?_)
  · have hM := hM.1 c7
    refine lv_aload_n hx hb (okX11_gap (13, .aload_n 0, 1) (List.mem_of_getElem? (i := 7) rfl)) rfl (lv_at hl 0 rfl) ?_
    refine sk_getr (b := 36) S hK hw kdn_0 (kd_in kdn_0) (C := RX11) (T := TX11) (N := 8) rfl hI11 2 ⟨by decide, rfl, by decide, rfl⟩ rfl (k' := 2) rfl rfl (by decide +kernel) hL0 (okX11_gap (14, .getfield 26, 3) (List.mem_of_getElem? (i := 8) rfl)) ?_
    have hr1 := hw.1.2.2 36 0
    refine sk_getiN S hK hw kdn_36 (kd_in kdn_36) (C := RX0) (T := TX0) (N := 4) rfl hI0 0 ⟨by decide, rfl, by decide, rfl⟩ rfl (k' := 0) rfl (va_Nw.use rfl (hK.2.1 ("SkyLights", 134, "SkyLights$Air", "gap", "I") (by decide +kernel))) (okX11_gap (17, .getfield 134, 3) (List.mem_of_getElem? (i := 9) rfl)) ?_
    refine sk_nm (fun v2_20 ev2_20 => ?_)
    have hM := hM v2_20 ev2_20
    have hr_v2_20 : rI v2_20 := by rw [ev2_20]; exact hr1
    refine lv_istore_n (lv' := [(2, .int (iI v2_20)), (0, .ref (sk_ad G 0)), (1, .int (iI p1))]) hx hb (okX11_gap (20, .istore_n 2, 1) (List.mem_of_getElem? (i := 10) rfl)) rfl hl (by decide) rfl (fun ls hl => ?_)
    refine lv_aload_n hx hb (okX11_gap (21, .aload_n 0, 1) (List.mem_of_getElem? (i := 11) rfl)) rfl (lv_at hl 1 rfl) ?_
    refine sk_getr (b := 36) S hK hw kdn_0 (kd_in kdn_0) (C := RX11) (T := TX11) (N := 8) rfl hI11 2 ⟨by decide, rfl, by decide, rfl⟩ rfl (k' := 2) rfl rfl (by decide +kernel) hL0 (okX11_gap (22, .getfield 26, 3) (List.mem_of_getElem? (i := 12) rfl)) ?_
    refine lv_iload_n hx hb (okX11_gap (25, .iload_n 1, 1) (List.mem_of_getElem? (i := 13) rfl)) rfl (lv_at hl 2 rfl) ?_
    refine sk_putN S hK hw kdn_36 (kd_in kdn_36) (C := RX0) (T := TX0) (N := 4) rfl hI0 tyX0 tyX0_ok nmX0 0 ⟨by decide, rfl, by decide, rfl⟩ rfl rfl (k' := 0) rfl hr_p1 ⟨rfl, rfl⟩ (va_Nw.use rfl (hK.2.1 ("SkyLights", 134, "SkyLights$Air", "gap", "I") (by decide +kernel))) (okX11_gap (26, .putfield 134, 3) (List.mem_of_getElem? (i := 14) rfl)) (fun H locs hw => ?_)
    refine lv_iload_n hx hb (okX11_gap (29, .iload_n 2, 1) (List.mem_of_getElem? (i := 15) rfl)) rfl (lv_at hl 0 rfl) ?_
    exact sk_iret hx hb hr0 hlocks hK hw hr_v2_20 hM (okX11_gap (30, .ireturn, 1) (List.mem_of_getElem? (i := 16) rfl))
  · have hM := hM.2 c7
    refine lv_bipush (v := iI (-2)) hx hb (okX11_gap (10, .bipush (-2), 2) (List.mem_of_getElem? (i := 5) rfl)) (by decide +kernel) ?_
    exact sk_iret hx hb hr0 hlocks hK hw (by decide) hM (okX11_gap (12, .ireturn, 1) (List.mem_of_getElem? (i := 6) rfl))
def rmX11_goes : Room := { frames := 2, cells := 0, slots := 0, locals := 106 }
set_option maxHeartbeats 4000000 in
set_option maxRecDepth 100000 in
theorem c_Sky_goes (l : Launch) (G : sk_G) {p1 : Int} (hr_p1 : rI p1) {Q : Int → sk_S → Prop} {I : sk_S} (hM : M_Sky_goes p1 Q I) : Met l yX11_goes wsX11_goes rmX11_goes (va_Pc [.ref (sk_ad G 0), .int (iI p1)] (sk_U G 198 sk_t I)) (sk_Qi G 198 sk_t Q) 0 0 (sk_A G) := by
  refine Met.ofW (cc := cX11_goes) (maxL := 2) (ret := (some .int)) (by decide) rfl ?_
  intro p e s m args below meth c s₁ B hml hv
  obtain ⟨rfl, hU, hK⟩ := hv
  have hx := B.exec
  have hb := B.bytes
  have hr0 := B.returns
  have hts := atoms_spec (ws := wsX11_goes) B.pre
  have hown : s.vm.findClass RX11 = some m.cls := findClass_of_methodNamed B.named
  have hlocks := B.notSynchronized
  have S : CallFix p m c cX11_goes 2 s ([.ref (sk_ad G 0), .int (iI p1)].toArray) wsX11_goes RX11 := ⟨hx, hb, hml, hown, hts⟩
  have hL0 := hts (.fieldLink RX11 40 "SkyLights" "latest" "LSkyLights$Pass;") (by decide +kernel)
  have hI11 : ∀ w ∈ u_ws RX11 TX11 8, w ∈ wsX11_goes := by decide +kernel
  have hw : sk_W G 198 sk_t I s s.heap [] := ⟨hU, va_S.rf⟩
  have hl := lv_entry ([.ref (sk_ad G 0), .int (iI p1)]) (n := 2) (Nat.le_of_ble_eq_true rfl)
  rw [lg_entry_eq]
  generalize (lg_sl ([.ref (sk_ad G 0), .int (iI p1)]) ++ List.replicate (2 - (lg_sl ([.ref (sk_ad G 0), .int (iI p1)])).length) Slot.unset).toArray = ls at hl ⊢
  have hl : lv_has ls 2 [(0, .ref (sk_ad G 0)), (1, .int (iI p1))] := hl
  suffices hgo : ∀ (H : Heap) (locs : List Loc), sk_W G 198 sk_t I s H locs → W p l e (headSpec wsX11_goes rmX11_goes).room s m ([.ref (sk_ad G 0), .int (iI p1)].toArray) below meth c H locs 0 0 (MQ below (sk_Qi G 198 sk_t Q) ([.ref (sk_ad G 0), .int (iI p1)].toArray) s 0 0 (sk_A G)) (F0 m 0 ls []) from hgo _ _ hw
  unfold M_Sky_goes at hM
  intro H locs hw
  refine lv_aload_n hx hb (okX11_goes (0, .aload_n 0, 1) (List.mem_of_getElem? (i := 0) rfl)) rfl (lv_at hl 0 rfl) ?_
  refine sk_getr (b := 44) S hK hw kdn_0 (kd_in kdn_0) (C := RX11) (T := TX11) (N := 8) rfl hI11 4 ⟨by decide, rfl, by decide, rfl⟩ rfl (k' := 4) rfl rfl (by decide +kernel) hL0 (okX11_goes (1, .getfield 40, 3) (List.mem_of_getElem? (i := 1) rfl)) ?_
  refine lv_iload_n hx hb (okX11_goes (4, .iload_n 1, 1) (List.mem_of_getElem? (i := 2) rfl)) rfl (lv_at hl 1 rfl) ?_
  refine sk_ci (sk_runV (a := 44) (C := RX4) (As := [.int (iI p1)]) (rest := []) S (c_Pass_has l G kdn_44 hr_p1 hM) sk_blind gX11_goes_X4_has rfl hdX4_has ⟨⟨rfl, rfl⟩, Nat.le_of_ble_eq_true rfl, Nat.le_of_ble_eq_true rfl⟩ (sk_recv hK hw kdn_44 (kd_in kdn_44) (by decide) rfl) (sk_pre hK hw) rfl hl.1 rfl (Nat.le_of_ble_eq_true rfl) (okX11_goes (5, .invokevirtual 154, 3) (List.mem_of_getElem? (i := 3) rfl)) ⟨Nat.zero_le _, Nat.zero_le _⟩) hw (fun r_5 I_5 H locs hr_r_5 hM hw => ?_)
  obtain ⟨hb_r_5, hM⟩ := hM
  refine sk_if_eq (tgt := 22) hx hb hr_r_5 (okX11_goes (8, .ifCond .eq 14, 3) (List.mem_of_getElem? (i := 4) rfl)) (by decide) (fun c8 => ?_) (fun c8 => ?_)
  · have hM := hM.1 c8
    refine lv_iconst (v := iI (-1)) hx hb (okX11_goes (22, .iconst (-1), 1) (List.mem_of_getElem? (i := 10) rfl)) rfl ?_
    exact sk_iret hx hb hr0 hlocks hK hw (by decide) hM (okX11_goes (23, .ireturn, 1) (List.mem_of_getElem? (i := 11) rfl))
  · have hM := hM.2 c8
    refine lv_aload_n hx hb (okX11_goes (11, .aload_n 0, 1) (List.mem_of_getElem? (i := 5) rfl)) rfl (lv_at hl 0 rfl) ?_
    refine sk_getr (b := 44) S hK hw kdn_0 (kd_in kdn_0) (C := RX11) (T := TX11) (N := 8) rfl hI11 4 ⟨by decide, rfl, by decide, rfl⟩ rfl (k' := 4) rfl rfl (by decide +kernel) hL0 (okX11_goes (12, .getfield 40, 3) (List.mem_of_getElem? (i := 6) rfl)) ?_
    refine lv_iload_n hx hb (okX11_goes (15, .iload_n 1, 1) (List.mem_of_getElem? (i := 7) rfl)) rfl (lv_at hl 1 rfl) ?_
    refine sk_ci (sk_runV (a := 44) (C := RX4) (As := [.int (iI p1)]) (rest := []) S (c_Pass_goal l G kdn_44 hr_p1 hM) sk_blind gX11_goes_X4_goal rfl hdX4_goal ⟨⟨rfl, rfl⟩, Nat.le_of_ble_eq_true rfl, Nat.le_of_ble_eq_true rfl⟩ (sk_recv hK hw kdn_44 (kd_in kdn_44) (by decide) rfl) (sk_pre hK hw) rfl hl.1 rfl (Nat.le_of_ble_eq_true rfl) (okX11_goes (16, .invokevirtual 155, 3) (List.mem_of_getElem? (i := 8) rfl)) ⟨Nat.zero_le _, Nat.zero_le _⟩) hw (fun r_16 I_16 H locs hr_r_16 hM hw => ?_)
    refine lv_goto (tgt := 23) hx hb (okX11_goes (19, .goto 4, 3) (List.mem_of_getElem? (i := 9) rfl)) (by decide) ?_
    exact sk_iret hx hb hr0 hlocks hK hw hr_r_16 hM (okX11_goes (23, .ireturn, 1) (List.mem_of_getElem? (i := 11) rfl))
def rmX11_isPicture : Room := { frames := 1, cells := 0, slots := 0, locals := 53 }
set_option maxHeartbeats 4000000 in
set_option maxRecDepth 100000 in
theorem c_Sky_isPicture (l : Launch) (G : sk_G) {p1 : Int} (hr_p1 : rI p1) {Q : Int → sk_S → Prop} {I : sk_S} (hM : M_Sky_isPicture p1 Q I) : Met l yX11_isPicture wsX11_isPicture rmX11_isPicture (va_Pc [.ref (sk_ad G 0), .int (iI p1)] (sk_U G 198 sk_t I)) (sk_Qz G 198 sk_t Q) 0 0 (sk_A G) := by
  refine Met.ofW (cc := cX11_isPicture) (maxL := 2) (ret := (some .boolean)) (by decide) rfl ?_
  intro p e s m args below meth c s₁ B hml hv
  obtain ⟨rfl, hU, hK⟩ := hv
  have hx := B.exec
  have hb := B.bytes
  have hr0 := B.returns
  have hts := atoms_spec (ws := wsX11_isPicture) B.pre
  have hown : s.vm.findClass RX11 = some m.cls := findClass_of_methodNamed B.named
  have hlocks := B.notSynchronized
  have S : CallFix p m c cX11_isPicture 2 s ([.ref (sk_ad G 0), .int (iI p1)].toArray) wsX11_isPicture RX11 := ⟨hx, hb, hml, hown, hts⟩
  have hL0 := hts (.fieldLink RX11 19 "SkyLights" "gallery" "LSkyLights$Gallery;") (by decide +kernel)
  have hI11 : ∀ w ∈ u_ws RX11 TX11 8, w ∈ wsX11_isPicture := by decide +kernel
  have hw : sk_W G 198 sk_t I s s.heap [] := ⟨hU, va_S.rf⟩
  have hl := lv_entry ([.ref (sk_ad G 0), .int (iI p1)]) (n := 2) (Nat.le_of_ble_eq_true rfl)
  rw [lg_entry_eq]
  generalize (lg_sl ([.ref (sk_ad G 0), .int (iI p1)]) ++ List.replicate (2 - (lg_sl ([.ref (sk_ad G 0), .int (iI p1)])).length) Slot.unset).toArray = ls at hl ⊢
  have hl : lv_has ls 2 [(0, .ref (sk_ad G 0)), (1, .int (iI p1))] := hl
  suffices hgo : ∀ (H : Heap) (locs : List Loc), sk_W G 198 sk_t I s H locs → W p l e (headSpec wsX11_isPicture rmX11_isPicture).room s m ([.ref (sk_ad G 0), .int (iI p1)].toArray) below meth c H locs 0 0 (MQ below (sk_Qz G 198 sk_t Q) ([.ref (sk_ad G 0), .int (iI p1)].toArray) s 0 0 (sk_A G)) (F0 m 0 ls []) from hgo _ _ hw
  unfold M_Sky_isPicture at hM
  intro H locs hw
  refine lv_iload_n hx hb (okX11_isPicture (0, .iload_n 1, 1) (List.mem_of_getElem? (i := 0) rfl)) rfl (lv_at hl 1 rfl) ?_
  refine lv_iconst (v := iI (-1)) hx hb (okX11_isPicture (1, .iconst (-1), 1) (List.mem_of_getElem? (i := 1) rfl)) rfl ?_
  refine sk_icmp_eq (tgt := 16) hx hb hr_p1 (by decide) (okX11_isPicture (2, .if_icmp .eq 14, 3) (List.mem_of_getElem? (i := 2) rfl)) (by decide) (fun c2 => ?_) (fun c2 => ?_)
  · have hM := hM.1 c2
    refine lv_iconst (v := iI 1) hx hb (okX11_isPicture (16, .iconst 1, 1) (List.mem_of_getElem? (i := 8) rfl)) rfl ?_
    refine lv_goto (tgt := 21) hx hb (okX11_isPicture (17, .goto 4, 3) (List.mem_of_getElem? (i := 9) rfl)) (by decide) ?_
    exact sk_zret hx hb hr0 hlocks hK hw (Or.inr rfl) hM (okX11_isPicture (21, .ireturn, 1) (List.mem_of_getElem? (i := 11) rfl))
  · have hM := hM.2 c2
    refine lv_aload_n hx hb (okX11_isPicture (5, .aload_n 0, 1) (List.mem_of_getElem? (i := 3) rfl)) rfl (lv_at hl 0 rfl) ?_
    refine sk_getr (b := 4) S hK hw kdn_0 (kd_in kdn_0) (C := RX11) (T := TX11) (N := 8) rfl hI11 1 ⟨by decide, rfl, by decide, rfl⟩ rfl (k' := 1) rfl rfl (by decide +kernel) hL0 (okX11_isPicture (6, .getfield 19, 3) (List.mem_of_getElem? (i := 4) rfl)) ?_
    refine lv_iload_n hx hb (okX11_isPicture (9, .iload_n 1, 1) (List.mem_of_getElem? (i := 5) rfl)) rfl (lv_at hl 1 rfl) ?_
    refine sk_ci (sk_runV (a := 4) (C := RX2) (As := [.int (iI p1)]) (rest := []) S (c_Gallery_has l G hr_p1 hM) sk_blind gX11_isPicture_X2_has rfl hdX2_has ⟨⟨rfl, rfl⟩, Nat.le_of_ble_eq_true rfl, Nat.le_of_ble_eq_true rfl⟩ (sk_recv hK hw kdn_4 (kd_in kdn_4) (by decide) rfl) (sk_pre hK hw) rfl hl.1 rfl (Nat.le_of_ble_eq_true rfl) (okX11_isPicture (10, .invokevirtual 114, 3) (List.mem_of_getElem? (i := 6) rfl)) ⟨Nat.zero_le _, Nat.zero_le _⟩) hw (fun r_10 I_10 H locs hr_r_10 hM hw => ?_)
    obtain ⟨hb_r_10, hM⟩ := hM
    refine sk_if_eq (tgt := 20) hx hb hr_r_10 (okX11_isPicture (13, .ifCond .eq 7, 3) (List.mem_of_getElem? (i := 7) rfl)) (by decide) (fun c13 => ?_) (fun c13 => ?_)
    · have hM := hM.1 c13
      refine lv_iconst (v := iI 0) hx hb (okX11_isPicture (20, .iconst 0, 1) (List.mem_of_getElem? (i := 10) rfl)) rfl ?_
      exact sk_zret hx hb hr0 hlocks hK hw (Or.inl rfl) hM (okX11_isPicture (21, .ireturn, 1) (List.mem_of_getElem? (i := 11) rfl))
    · have hM := hM.2 c13
      refine lv_iconst (v := iI 1) hx hb (okX11_isPicture (16, .iconst 1, 1) (List.mem_of_getElem? (i := 8) rfl)) rfl ?_
      refine lv_goto (tgt := 21) hx hb (okX11_isPicture (17, .goto 4, 3) (List.mem_of_getElem? (i := 9) rfl)) (by decide) ?_
      exact sk_zret hx hb hr0 hlocks hK hw (Or.inr rfl) hM (okX11_isPicture (21, .ireturn, 1) (List.mem_of_getElem? (i := 11) rfl))
def rmX11_lands : Room := { frames := 4, cells := 0, slots := 0, locals := 215 }
set_option maxHeartbeats 4000000 in
set_option maxRecDepth 100000 in
theorem c_Sky_lands (l : Launch) (G : sk_G) {p1 : Int} (hr_p1 : rI p1) {Q : Int → sk_S → Prop} {I : sk_S} (hM : M_Sky_lands p1 Q I) : Met l yX11_lands wsX11_lands rmX11_lands (va_Pc [.ref (sk_ad G 0), .int (iI p1)] (sk_U G 198 sk_t I)) (sk_Qi G 198 sk_t Q) 0 0 (sk_A G) := by
  refine Met.ofW (cc := cX11_lands) (maxL := 2) (ret := (some .int)) (by decide) rfl ?_
  intro p e s m args below meth c s₁ B hml hv
  obtain ⟨rfl, hU, hK⟩ := hv
  have hx := B.exec
  have hb := B.bytes
  have hr0 := B.returns
  have hts := atoms_spec (ws := wsX11_lands) B.pre
  have hown : s.vm.findClass RX11 = some m.cls := findClass_of_methodNamed B.named
  have hlocks := B.notSynchronized
  have S : CallFix p m c cX11_lands 2 s ([.ref (sk_ad G 0), .int (iI p1)].toArray) wsX11_lands RX11 := ⟨hx, hb, hml, hown, hts⟩
  have hL0 := hts (.fieldLink RX11 54 "SkyLights" "show" "LSkyLights$Show;") (by decide +kernel)
  have hI11 : ∀ w ∈ u_ws RX11 TX11 8, w ∈ wsX11_lands := by decide +kernel
  have hw : sk_W G 198 sk_t I s s.heap [] := ⟨hU, va_S.rf⟩
  have hl := lv_entry ([.ref (sk_ad G 0), .int (iI p1)]) (n := 2) (Nat.le_of_ble_eq_true rfl)
  rw [lg_entry_eq]
  generalize (lg_sl ([.ref (sk_ad G 0), .int (iI p1)]) ++ List.replicate (2 - (lg_sl ([.ref (sk_ad G 0), .int (iI p1)])).length) Slot.unset).toArray = ls at hl ⊢
  have hl : lv_has ls 2 [(0, .ref (sk_ad G 0)), (1, .int (iI p1))] := hl
  suffices hgo : ∀ (H : Heap) (locs : List Loc), sk_W G 198 sk_t I s H locs → W p l e (headSpec wsX11_lands rmX11_lands).room s m ([.ref (sk_ad G 0), .int (iI p1)].toArray) below meth c H locs 0 0 (MQ below (sk_Qi G 198 sk_t Q) ([.ref (sk_ad G 0), .int (iI p1)].toArray) s 0 0 (sk_A G)) (F0 m 0 ls []) from hgo _ _ hw
  unfold M_Sky_lands at hM
  intro H locs hw
  refine lv_aload_n hx hb (okX11_lands (0, .aload_n 0, 1) (List.mem_of_getElem? (i := 0) rfl)) rfl (lv_at hl 0 rfl) ?_
  refine lv_iload_n hx hb (okX11_lands (1, .iload_n 1, 1) (List.mem_of_getElem? (i := 1) rfl)) rfl (lv_at hl 1 rfl) ?_
  refine sk_ci (sk_runV (a := 0) (C := RX11) (As := [.int (iI p1)]) (rest := []) S (c_Sky_isFlyer l G hr_p1 hM) sk_blind gX11_lands_X11_isFlyer rfl hdX11_isFlyer ⟨⟨rfl, rfl⟩, Nat.le_of_ble_eq_true rfl, Nat.le_of_ble_eq_true rfl⟩ (sk_recv hK hw kdn_0 (kd_in kdn_0) (by decide) rfl) (sk_pre hK hw) rfl hl.1 rfl (Nat.le_of_ble_eq_true rfl) (okX11_lands (2, .invokevirtual 209, 3) (List.mem_of_getElem? (i := 2) rfl)) ⟨Nat.zero_le _, Nat.zero_le _⟩) hw (fun r_2 I_2 H locs hr_r_2 hM hw => ?_)
  obtain ⟨hb_r_2, hM⟩ := hM
  refine sk_if_ne (tgt := 10) hx hb hr_r_2 (okX11_lands (5, .ifCond .ne 5, 3) (List.mem_of_getElem? (i := 3) rfl)) (by decide) (fun c5 => ?_) (fun c5 => ?_)
  · have hM := hM.1 c5
    refine lv_aload_n hx hb (okX11_lands (10, .aload_n 0, 1) (List.mem_of_getElem? (i := 6) rfl)) rfl (lv_at hl 0 rfl) ?_
    refine sk_getr (b := 54) S hK hw kdn_0 (kd_in kdn_0) (C := RX11) (T := TX11) (N := 8) rfl hI11 6 ⟨by decide, rfl, by decide, rfl⟩ rfl (k' := 6) rfl rfl (by decide +kernel) hL0 (okX11_lands (11, .getfield 54, 3) (List.mem_of_getElem? (i := 7) rfl)) ?_
    refine sk_ci (sk_runV (a := 54) (C := RX9) (As := []) (rest := []) S (c_Show_size l G hM) sk_blind gX11_lands_X9_size rfl hdX9_size ⟨⟨rfl, rfl⟩, Nat.le_of_ble_eq_true rfl, Nat.le_of_ble_eq_true rfl⟩ (sk_recv hK hw kdn_54 (kd_in kdn_54) (by decide) rfl) (sk_pre hK hw) rfl hl.1 rfl (Nat.le_of_ble_eq_true rfl) (okX11_lands (14, .invokevirtual 74, 3) (List.mem_of_getElem? (i := 8) rfl)) ⟨Nat.zero_le _, Nat.zero_le _⟩) hw (fun r_14 I_14 H locs hr_r_14 hM hw => ?_)
    refine sk_if_le (tgt := 31) hx hb hr_r_14 (okX11_lands (17, .ifCond .le 14, 3) (List.mem_of_getElem? (i := 9) rfl)) (by decide) (fun c17 => ?_) (fun c17 => ?_)
    · have hM := hM.1 c17
      refine lv_bipush (v := iI (-3)) hx hb (okX11_lands (31, .bipush (-3), 2) (List.mem_of_getElem? (i := 15) rfl)) (by decide +kernel) ?_
      exact sk_iret hx hb hr0 hlocks hK hw (by decide) hM (okX11_lands (33, .ireturn, 1) (List.mem_of_getElem? (i := 16) rfl))
    · have hM := hM.2 c17
      refine lv_aload_n hx hb (okX11_lands (20, .aload_n 0, 1) (List.mem_of_getElem? (i := 10) rfl)) rfl (lv_at hl 0 rfl) ?_
      refine sk_getr (b := 54) S hK hw kdn_0 (kd_in kdn_0) (C := RX11) (T := TX11) (N := 8) rfl hI11 6 ⟨by decide, rfl, by decide, rfl⟩ rfl (k' := 6) rfl rfl (by decide +kernel) hL0 (okX11_lands (21, .getfield 54, 3) (List.mem_of_getElem? (i := 11) rfl)) ?_
      refine lv_iload_n hx hb (okX11_lands (24, .iload_n 1, 1) (List.mem_of_getElem? (i := 12) rfl)) rfl (lv_at hl 1 rfl) ?_
      refine sk_ci (sk_runV (a := 54) (C := RX9) (As := [.int (iI p1)]) (rest := []) S (c_Show_pad l G hr_p1 hM) sk_blind gX11_lands_X9_pad rfl hdX9_pad ⟨⟨rfl, rfl⟩, Nat.le_of_ble_eq_true rfl, Nat.le_of_ble_eq_true rfl⟩ (sk_recv hK hw kdn_54 (kd_in kdn_54) (by decide) rfl) (sk_pre hK hw) rfl hl.1 rfl (Nat.le_of_ble_eq_true rfl) (okX11_lands (25, .invokevirtual 216, 3) (List.mem_of_getElem? (i := 13) rfl)) ⟨Nat.zero_le _, Nat.zero_le _⟩) hw (fun r_25 I_25 H locs hr_r_25 hM hw => ?_)
      refine lv_goto (tgt := 33) hx hb (okX11_lands (28, .goto 5, 3) (List.mem_of_getElem? (i := 14) rfl)) (by decide) ?_
      exact sk_iret hx hb hr0 hlocks hK hw hr_r_25 hM (okX11_lands (33, .ireturn, 1) (List.mem_of_getElem? (i := 16) rfl))
  · have hM := hM.2 c5
    refine lv_iconst (v := iI (-1)) hx hb (okX11_lands (8, .iconst (-1), 1) (List.mem_of_getElem? (i := 4) rfl)) rfl ?_
    exact sk_iret hx hb hr0 hlocks hK hw (by decide) hM (okX11_lands (9, .ireturn, 1) (List.mem_of_getElem? (i := 5) rfl))
def rmX11_last : Room := { frames := 3, cells := 0, slots := 0, locals := 163 }
set_option maxHeartbeats 4000000 in
set_option maxRecDepth 100000 in
theorem c_Sky_last (l : Launch) (G : sk_G) {Q : Int → sk_S → Prop} {I : sk_S} (hM : M_Sky_last Q I) : Met l yX11_last wsX11_last rmX11_last (va_Pc [.ref (sk_ad G 0)] (sk_U G 198 sk_t I)) (sk_Qi G 198 sk_t Q) 0 0 (sk_A G) := by
  refine Met.ofW (cc := cX11_last) (maxL := 3) (ret := (some .int)) (by decide) rfl ?_
  intro p e s m args below meth c s₁ B hml hv
  obtain ⟨rfl, hU, hK⟩ := hv
  have hx := B.exec
  have hb := B.bytes
  have hr0 := B.returns
  have hts := atoms_spec (ws := wsX11_last) B.pre
  have hown : s.vm.findClass RX11 = some m.cls := findClass_of_methodNamed B.named
  have hlocks := B.notSynchronized
  have S : CallFix p m c cX11_last 3 s ([.ref (sk_ad G 0)].toArray) wsX11_last RX11 := ⟨hx, hb, hml, hown, hts⟩
  have hL0 := hts (.fieldLink RX11 54 "SkyLights" "show" "LSkyLights$Show;") (by decide +kernel)
  have hI9 : ∀ w ∈ u_ws RX9 TX9 5, w ∈ wsX11_last := by decide +kernel
  have hI11 : ∀ w ∈ u_ws RX11 TX11 8, w ∈ wsX11_last := by decide +kernel
  have hw : sk_W G 198 sk_t I s s.heap [] := ⟨hU, va_S.rf⟩
  have hl := lv_entry ([.ref (sk_ad G 0)]) (n := 3) (Nat.le_of_ble_eq_true rfl)
  rw [lg_entry_eq]
  generalize (lg_sl ([.ref (sk_ad G 0)]) ++ List.replicate (3 - (lg_sl ([.ref (sk_ad G 0)])).length) Slot.unset).toArray = ls at hl ⊢
  have hl : lv_has ls 3 [(0, .ref (sk_ad G 0))] := hl
  suffices hgo : ∀ (H : Heap) (locs : List Loc), sk_W G 198 sk_t I s H locs → W p l e (headSpec wsX11_last rmX11_last).room s m ([.ref (sk_ad G 0)].toArray) below meth c H locs 0 0 (MQ below (sk_Qi G 198 sk_t Q) ([.ref (sk_ad G 0)].toArray) s 0 0 (sk_A G)) (F0 m 0 ls []) from hgo _ _ hw
  have hJ_4 : ∀ (v1 v2 : Int) (I : sk_S), rI v1 → rI v2 → L_Sky_last_4 Q v1 v2 I → ∀ (H : Heap) (locs : List Loc) (ls : Array Slot), sk_W G 198 sk_t I s H locs → lv_has ls 3 [(0, .ref (sk_ad G 0)), (1, .int (iI v1)), (2, .int (iI v2))] → W p l e (headSpec wsX11_last rmX11_last).room s m ([.ref (sk_ad G 0)].toArray) below meth c H locs 0 0 (MQ below (sk_Qi G 198 sk_t Q) ([.ref (sk_ad G 0)].toArray) s 0 0 (sk_A G)) (F0 m 4 ls []) := by
    intro v1 v2 I hr_v1 hr_v2 hM H locs ls hw hl
    unfold L_Sky_last_4 at hM
    obtain ⟨X_4, hX_4⟩ : ∃ X : Int → Int → sk_S → Prop, ∀ (v1 v2 : Int) (I : sk_S), X v1 v2 I ↔ (rI v1 → rI v2 → ∀ (H : Heap) (locs : List Loc) (ls : Array Slot), sk_W G 198 sk_t I s H locs → lv_has ls 3 [(0, .ref (sk_ad G 0)), (1, .int (iI v1)), (2, .int (iI v2))] → W p l e (headSpec wsX11_last rmX11_last).room s m ([.ref (sk_ad G 0)].toArray) below meth c H locs 0 0 (MQ below (sk_Qi G 198 sk_t Q) ([.ref (sk_ad G 0)].toArray) s 0 0 (sk_A G)) (F0 m 4 ls [])) := ⟨_, fun _ _ _ => Iff.rfl⟩
    have hJ_36 : ∀ (v1 v2 : Int) (I : sk_S), rI v1 → rI v2 → J_Sky_last_36 v1 v2 Q X_4 I → ∀ (H : Heap) (locs : List Loc) (ls : Array Slot), sk_W G 198 sk_t I s H locs → lv_has ls 3 [(0, .ref (sk_ad G 0)), (1, .int (iI v1)), (2, .int (iI v2))] → W p l e (headSpec wsX11_last rmX11_last).room s m ([.ref (sk_ad G 0)].toArray) below meth c H locs 0 0 (MQ below (sk_Qi G 198 sk_t Q) ([.ref (sk_ad G 0)].toArray) s 0 0 (sk_A G)) (F0 m 36 ls []) := by
      intro v1 v2 I hr_v1 hr_v2 hM H locs ls hw hl
      unfold J_Sky_last_36 at hM
      obtain ⟨hr2, hM⟩ := hM
      obtain ⟨v2_36, ev2_36⟩ : ∃ y : Int, y = v2 + 1 := ⟨_, rfl⟩
      have hM := hM v2_36 ev2_36
      have hr_v2_36 : rI v2_36 := by rw [ev2_36]; exact hr2
      refine lv_iinc (v := iI v2_36) (lv' := [(2, .int (iI v2_36)), (0, .ref (sk_ad G 0)), (1, .int (iI v1))]) hx hb (okX11_last (36, .iinc 2 1, 3) (List.mem_of_getElem? (i := 22) rfl)) hl (k := 2) rfl (by rw [ev2_36]; exact iI_add _ _) (by decide) rfl (fun ls hl => ?_)
      refine lv_goto (tgt := 4) hx hb (okX11_last (39, .goto (-35), 3) (List.mem_of_getElem? (i := 23) rfl)) (by decide) ?_
      exact (hX_4 v1 v2_36 I).1 hM hr_v1 hr_v2_36 H locs ls hw (lv_sub hl [1, 2, 0] rfl)
    refine (hX_4 v1 v2 I).1 (hM X_4 (fun v1 v2 I hM => (hX_4 v1 v2 I).2 (fun hr_v1 hr_v2 H locs ls hw hl => ?_))) hr_v1 hr_v2 H locs ls hw hl
    refine lv_iload_n hx hb (okX11_last (4, .iload_n 2, 1) (List.mem_of_getElem? (i := 4) rfl)) rfl (lv_at hl 2 rfl) ?_
    refine lv_aload_n hx hb (okX11_last (5, .aload_n 0, 1) (List.mem_of_getElem? (i := 5) rfl)) rfl (lv_at hl 0 rfl) ?_
    refine sk_ci (sk_runV (a := 0) (C := RX11) (As := []) (rest := [.int (iI v2)]) S (c_Sky_flyers l G hM) sk_blind gX11_last_X11_flyers rfl hdX11_flyers ⟨⟨rfl, rfl⟩, Nat.le_of_ble_eq_true rfl, Nat.le_of_ble_eq_true rfl⟩ (sk_recv hK hw kdn_0 (kd_in kdn_0) (by decide) rfl) (sk_pre hK hw) rfl hl.1 rfl (Nat.le_of_ble_eq_true rfl) (okX11_last (6, .invokevirtual 78, 3) (List.mem_of_getElem? (i := 6) rfl)) ⟨Nat.zero_le _, Nat.zero_le _⟩) hw (fun r_6 I_6 H locs hr_r_6 hM hw => ?_)
    refine sk_icmp_ge (tgt := 42) hx hb hr_v2 hr_r_6 (okX11_last (9, .if_icmp .ge 33, 3) (List.mem_of_getElem? (i := 7) rfl)) (by decide) (fun c9 => ?_) (fun c9 => ?_)
    · have hM := hM.1 c9
      refine lv_iload_n hx hb (okX11_last (42, .iload_n 1, 1) (List.mem_of_getElem? (i := 24) rfl)) rfl (lv_at hl 1 rfl) ?_
      exact sk_iret hx hb hr0 hlocks hK hw hr_v1 hM (okX11_last (43, .ireturn, 1) (List.mem_of_getElem? (i := 25) rfl))
    · have hM := hM.2 c9
      refine lv_aload_n hx hb (okX11_last (12, .aload_n 0, 1) (List.mem_of_getElem? (i := 8) rfl)) rfl (lv_at hl 0 rfl) ?_
      refine sk_getr (b := 54) S hK hw kdn_0 (kd_in kdn_0) (C := RX11) (T := TX11) (N := 8) rfl hI11 6 ⟨by decide, rfl, by decide, rfl⟩ rfl (k' := 6) rfl rfl (by decide +kernel) hL0 (okX11_last (13, .getfield 54, 3) (List.mem_of_getElem? (i := 9) rfl)) ?_
      refine lv_iload_n hx hb (okX11_last (16, .iload_n 2, 1) (List.mem_of_getElem? (i := 10) rfl)) rfl (lv_at hl 2 rfl) ?_
      refine sk_ci (sk_runV (a := 54) (C := RX9) (As := [.int (iI v2)]) (rest := []) S (c_Show_chargeLeft l G hr_v2 hM) sk_blind gX11_last_X9_chargeLeft rfl hdX9_chargeLeft ⟨⟨rfl, rfl⟩, Nat.le_of_ble_eq_true rfl, Nat.le_of_ble_eq_true rfl⟩ (sk_recv hK hw kdn_54 (kd_in kdn_54) (by decide) rfl) (sk_pre hK hw) rfl hl.1 rfl (Nat.le_of_ble_eq_true rfl) (okX11_last (17, .invokevirtual 222, 3) (List.mem_of_getElem? (i := 11) rfl)) ⟨Nat.zero_le _, Nat.zero_le _⟩) hw (fun r_17 I_17 H locs hr_r_17 hM hw => ?_)
      refine lv_aload_n hx hb (okX11_last (20, .aload_n 0, 1) (List.mem_of_getElem? (i := 12) rfl)) rfl (lv_at hl 0 rfl) ?_
      refine sk_getr (b := 54) S hK hw kdn_0 (kd_in kdn_0) (C := RX11) (T := TX11) (N := 8) rfl hI11 6 ⟨by decide, rfl, by decide, rfl⟩ rfl (k' := 6) rfl rfl (by decide +kernel) hL0 (okX11_last (21, .getfield 54, 3) (List.mem_of_getElem? (i := 13) rfl)) ?_
      have hr1 := hw.1.2.2 54 4
      refine sk_getiN S hK hw kdn_54 (kd_in kdn_54) (C := RX9) (T := TX9) (N := 5) rfl hI9 4 ⟨by decide, rfl, by decide, rfl⟩ rfl (k' := 4) rfl (va_Nw.use rfl (hK.2.1 ("SkyLights", 226, "SkyLights$Show", "margin", "I") (by decide +kernel))) (okX11_last (24, .getfield 226, 3) (List.mem_of_getElem? (i := 14) rfl)) ?_
      refine sk_icmp_lt (tgt := 36) hx hb hr_r_17 hr1 (okX11_last (27, .if_icmp .lt 9, 3) (List.mem_of_getElem? (i := 15) rfl)) (by decide) (fun c27 => ?_) (fun c27 => ?_)
      · have hM := hM.1 c27
        exact hJ_36 v1 v2 I_17 hr_v1 hr_v2 hM H locs ls hw (lv_sub hl [0, 1, 2] rfl)
      · have hM := hM.2 c27
        refine lv_iload_n hx hb (okX11_last (30, .iload_n 1, 1) (List.mem_of_getElem? (i := 16) rfl)) rfl (lv_at hl 1 rfl) ?_
        refine lv_iconst (v := iI 1) hx hb (okX11_last (31, .iconst 1, 1) (List.mem_of_getElem? (i := 17) rfl)) rfl ?_
        refine lv_iload_n hx hb (okX11_last (32, .iload_n 2, 1) (List.mem_of_getElem? (i := 18) rfl)) rfl (lv_at hl 2 rfl) ?_
        refine sk_ishl hx hb (okX11_last (33, .ishl, 1) (List.mem_of_getElem? (i := 19) rfl)) ?_
        refine sk_ior hx hb (okX11_last (34, .ior, 1) (List.mem_of_getElem? (i := 20) rfl)) ?_
        refine sk_nm (fun v1_35 ev1_35 => ?_)
        have hM := hM v1_35 ev1_35
        have hr_v1_35 : rI v1_35 := by rw [ev1_35]; exact (rI_of _)
        refine lv_istore_n (lv' := [(1, .int (iI v1_35)), (0, .ref (sk_ad G 0)), (2, .int (iI v2))]) hx hb (okX11_last (35, .istore_n 1, 1) (List.mem_of_getElem? (i := 21) rfl)) rfl hl (by decide) rfl (fun ls hl => ?_)
        exact hJ_36 v1_35 v2 I_17 hr_v1_35 hr_v2 hM H locs ls hw (lv_sub hl [1, 0, 2] rfl)
  unfold M_Sky_last at hM
  intro H locs hw
  refine lv_iconst (v := iI 0) hx hb (okX11_last (0, .iconst 0, 1) (List.mem_of_getElem? (i := 0) rfl)) rfl ?_
  refine lv_istore_n (lv' := [(1, .int (iI 0)), (0, .ref (sk_ad G 0))]) hx hb (okX11_last (1, .istore_n 1, 1) (List.mem_of_getElem? (i := 1) rfl)) rfl hl (by decide) rfl (fun ls hl => ?_)
  refine lv_iconst (v := iI 0) hx hb (okX11_last (2, .iconst 0, 1) (List.mem_of_getElem? (i := 2) rfl)) rfl ?_
  refine lv_istore_n (lv' := [(2, .int (iI 0)), (1, .int (iI 0)), (0, .ref (sk_ad G 0))]) hx hb (okX11_last (3, .istore_n 2, 1) (List.mem_of_getElem? (i := 3) rfl)) rfl hl (by decide) rfl (fun ls hl => ?_)
  exact hJ_4 0 0 I (by decide) (by decide) hM H locs ls hw (lv_sub hl [2, 1, 0] rfl)
def rmX11_left : Room := { frames := 3, cells := 0, slots := 0, locals := 163 }
set_option maxHeartbeats 4000000 in
set_option maxRecDepth 100000 in
theorem c_Sky_left (l : Launch) (G : sk_G) {p1 : Int} (hr_p1 : rI p1) {Q : Int → sk_S → Prop} {I : sk_S} (hM : M_Sky_left p1 Q I) : Met l yX11_left wsX11_left rmX11_left (va_Pc [.ref (sk_ad G 0), .int (iI p1)] (sk_U G 198 sk_t I)) (sk_Qi G 198 sk_t Q) 0 0 (sk_A G) := by
  refine Met.ofW (cc := cX11_left) (maxL := 2) (ret := (some .int)) (by decide) rfl ?_
  intro p e s m args below meth c s₁ B hml hv
  obtain ⟨rfl, hU, hK⟩ := hv
  have hx := B.exec
  have hb := B.bytes
  have hr0 := B.returns
  have hts := atoms_spec (ws := wsX11_left) B.pre
  have hown : s.vm.findClass RX11 = some m.cls := findClass_of_methodNamed B.named
  have hlocks := B.notSynchronized
  have S : CallFix p m c cX11_left 2 s ([.ref (sk_ad G 0), .int (iI p1)].toArray) wsX11_left RX11 := ⟨hx, hb, hml, hown, hts⟩
  have hL0 := hts (.constant RX11 225 (-1000000)) (by decide +kernel)
  have hL1 := hts (.fieldLink RX11 54 "SkyLights" "show" "LSkyLights$Show;") (by decide +kernel)
  have hI11 : ∀ w ∈ u_ws RX11 TX11 8, w ∈ wsX11_left := by decide +kernel
  have hw : sk_W G 198 sk_t I s s.heap [] := ⟨hU, va_S.rf⟩
  have hl := lv_entry ([.ref (sk_ad G 0), .int (iI p1)]) (n := 2) (Nat.le_of_ble_eq_true rfl)
  rw [lg_entry_eq]
  generalize (lg_sl ([.ref (sk_ad G 0), .int (iI p1)]) ++ List.replicate (2 - (lg_sl ([.ref (sk_ad G 0), .int (iI p1)])).length) Slot.unset).toArray = ls at hl ⊢
  have hl : lv_has ls 2 [(0, .ref (sk_ad G 0)), (1, .int (iI p1))] := hl
  suffices hgo : ∀ (H : Heap) (locs : List Loc), sk_W G 198 sk_t I s H locs → W p l e (headSpec wsX11_left rmX11_left).room s m ([.ref (sk_ad G 0), .int (iI p1)].toArray) below meth c H locs 0 0 (MQ below (sk_Qi G 198 sk_t Q) ([.ref (sk_ad G 0), .int (iI p1)].toArray) s 0 0 (sk_A G)) (F0 m 0 ls []) from hgo _ _ hw
  unfold M_Sky_left at hM
  intro H locs hw
  refine lv_aload_n hx hb (okX11_left (0, .aload_n 0, 1) (List.mem_of_getElem? (i := 0) rfl)) rfl (lv_at hl 0 rfl) ?_
  refine lv_iload_n hx hb (okX11_left (1, .iload_n 1, 1) (List.mem_of_getElem? (i := 1) rfl)) rfl (lv_at hl 1 rfl) ?_
  refine sk_ci (sk_runV (a := 0) (C := RX11) (As := [.int (iI p1)]) (rest := []) S (c_Sky_isFlyer l G hr_p1 hM) sk_blind gX11_left_X11_isFlyer rfl hdX11_isFlyer ⟨⟨rfl, rfl⟩, Nat.le_of_ble_eq_true rfl, Nat.le_of_ble_eq_true rfl⟩ (sk_recv hK hw kdn_0 (kd_in kdn_0) (by decide) rfl) (sk_pre hK hw) rfl hl.1 rfl (Nat.le_of_ble_eq_true rfl) (okX11_left (2, .invokevirtual 209, 3) (List.mem_of_getElem? (i := 2) rfl)) ⟨Nat.zero_le _, Nat.zero_le _⟩) hw (fun r_2 I_2 H locs hr_r_2 hM hw => ?_)
  obtain ⟨hb_r_2, hM⟩ := hM
  refine sk_if_eq (tgt := 19) hx hb hr_r_2 (okX11_left (5, .ifCond .eq 14, 3) (List.mem_of_getElem? (i := 3) rfl)) (by decide) (fun c5 => ?_) (fun c5 => ?_)
  · have hM := hM.1 c5
    refine lv_ldc (v := iI (-1000000)) hx hb hown (by rw [show iI (-1000000) = (-1000000 : Int32) from by decide +kernel]; exact hL0) (okX11_left (19, .ldc 225, 2) (List.mem_of_getElem? (i := 9) rfl)) ?_
    exact sk_iret hx hb hr0 hlocks hK hw (by decide) hM (okX11_left (21, .ireturn, 1) (List.mem_of_getElem? (i := 10) rfl))
  · have hM := hM.2 c5
    refine lv_aload_n hx hb (okX11_left (8, .aload_n 0, 1) (List.mem_of_getElem? (i := 4) rfl)) rfl (lv_at hl 0 rfl) ?_
    refine sk_getr (b := 54) S hK hw kdn_0 (kd_in kdn_0) (C := RX11) (T := TX11) (N := 8) rfl hI11 6 ⟨by decide, rfl, by decide, rfl⟩ rfl (k' := 6) rfl rfl (by decide +kernel) hL1 (okX11_left (9, .getfield 54, 3) (List.mem_of_getElem? (i := 5) rfl)) ?_
    refine lv_iload_n hx hb (okX11_left (12, .iload_n 1, 1) (List.mem_of_getElem? (i := 6) rfl)) rfl (lv_at hl 1 rfl) ?_
    refine sk_ci (sk_runV (a := 54) (C := RX9) (As := [.int (iI p1)]) (rest := []) S (c_Show_chargeLeft l G hr_p1 hM) sk_blind gX11_left_X9_chargeLeft rfl hdX9_chargeLeft ⟨⟨rfl, rfl⟩, Nat.le_of_ble_eq_true rfl, Nat.le_of_ble_eq_true rfl⟩ (sk_recv hK hw kdn_54 (kd_in kdn_54) (by decide) rfl) (sk_pre hK hw) rfl hl.1 rfl (Nat.le_of_ble_eq_true rfl) (okX11_left (13, .invokevirtual 222, 3) (List.mem_of_getElem? (i := 7) rfl)) ⟨Nat.zero_le _, Nat.zero_le _⟩) hw (fun r_13 I_13 H locs hr_r_13 hM hw => ?_)
    refine lv_goto (tgt := 21) hx hb (okX11_left (16, .goto 5, 3) (List.mem_of_getElem? (i := 8) rfl)) (by decide) ?_
    exact sk_iret hx hb hr0 hlocks hK hw hr_r_13 hM (okX11_left (21, .ireturn, 1) (List.mem_of_getElem? (i := 10) rfl))
def rmX11_length : Room := { frames := 3, cells := 0, slots := 0, locals := 158 }
set_option maxHeartbeats 4000000 in
set_option maxRecDepth 100000 in
theorem c_Sky_length (l : Launch) (G : sk_G) {Q : Int → sk_S → Prop} {I : sk_S} (hM : M_Sky_length Q I) : Met l yX11_length wsX11_length rmX11_length (va_Pc [.ref (sk_ad G 0)] (sk_U G 198 sk_t I)) (sk_Qi G 198 sk_t Q) 0 0 (sk_A G) := by
  refine Met.ofW (cc := cX11_length) (maxL := 1) (ret := (some .int)) (by decide) rfl ?_
  intro p e s m args below meth c s₁ B hml hv
  obtain ⟨rfl, hU, hK⟩ := hv
  have hx := B.exec
  have hb := B.bytes
  have hr0 := B.returns
  have hts := atoms_spec (ws := wsX11_length) B.pre
  have hown : s.vm.findClass RX11 = some m.cls := findClass_of_methodNamed B.named
  have hlocks := B.notSynchronized
  have S : CallFix p m c cX11_length 1 s ([.ref (sk_ad G 0)].toArray) wsX11_length RX11 := ⟨hx, hb, hml, hown, hts⟩
  have hL0 := hts (.fieldLink RX11 54 "SkyLights" "show" "LSkyLights$Show;") (by decide +kernel)
  have hI11 : ∀ w ∈ u_ws RX11 TX11 8, w ∈ wsX11_length := by decide +kernel
  have hw : sk_W G 198 sk_t I s s.heap [] := ⟨hU, va_S.rf⟩
  have hl := lv_entry ([.ref (sk_ad G 0)]) (n := 1) (Nat.le_of_ble_eq_true rfl)
  rw [lg_entry_eq]
  generalize (lg_sl ([.ref (sk_ad G 0)]) ++ List.replicate (1 - (lg_sl ([.ref (sk_ad G 0)])).length) Slot.unset).toArray = ls at hl ⊢
  have hl : lv_has ls 1 [(0, .ref (sk_ad G 0))] := hl
  suffices hgo : ∀ (H : Heap) (locs : List Loc), sk_W G 198 sk_t I s H locs → W p l e (headSpec wsX11_length rmX11_length).room s m ([.ref (sk_ad G 0)].toArray) below meth c H locs 0 0 (MQ below (sk_Qi G 198 sk_t Q) ([.ref (sk_ad G 0)].toArray) s 0 0 (sk_A G)) (F0 m 0 ls []) from hgo _ _ hw
  unfold M_Sky_length at hM
  intro H locs hw
  refine lv_aload_n hx hb (okX11_length (0, .aload_n 0, 1) (List.mem_of_getElem? (i := 0) rfl)) rfl (lv_at hl 0 rfl) ?_
  refine sk_getr (b := 54) S hK hw kdn_0 (kd_in kdn_0) (C := RX11) (T := TX11) (N := 8) rfl hI11 6 ⟨by decide, rfl, by decide, rfl⟩ rfl (k' := 6) rfl rfl (by decide +kernel) hL0 (okX11_length (1, .getfield 54, 3) (List.mem_of_getElem? (i := 1) rfl)) ?_
  refine sk_ci (sk_runV (a := 54) (C := RX9) (As := []) (rest := []) S (c_Show_ticks l G hM) sk_blind gX11_length_X9_ticks rfl hdX9_ticks ⟨⟨rfl, rfl⟩, Nat.le_of_ble_eq_true rfl, Nat.le_of_ble_eq_true rfl⟩ (sk_recv hK hw kdn_54 (kd_in kdn_54) (by decide) rfl) (sk_pre hK hw) rfl hl.1 rfl (Nat.le_of_ble_eq_true rfl) (okX11_length (4, .invokevirtual 219, 3) (List.mem_of_getElem? (i := 2) rfl)) ⟨Nat.zero_le _, Nat.zero_le _⟩) hw (fun r_4 I_4 H locs hr_r_4 hM hw => ?_)
  exact sk_iret hx hb hr0 hlocks hK hw hr_r_4 hM (okX11_length (7, .ireturn, 1) (List.mem_of_getElem? (i := 3) rfl))
def rmX11_margin : Room := { frames := 1, cells := 0, slots := 0, locals := 54 }
set_option maxHeartbeats 4000000 in
set_option maxRecDepth 100000 in
theorem c_Sky_margin (l : Launch) (G : sk_G) {p1 : Int} (hr_p1 : rI p1) {Q : Int → sk_S → Prop} {I : sk_S} (hM : M_Sky_margin p1 Q I) : Met l yX11_margin wsX11_margin rmX11_margin (va_Pc [.ref (sk_ad G 0), .int (iI p1)] (sk_U G 198 sk_t I)) (sk_Qi G 198 sk_t Q) 0 0 (sk_A G) := by
  refine Met.ofW (cc := cX11_margin) (maxL := 3) (ret := (some .int)) (by decide) rfl ?_
  intro p e s m args below meth c s₁ B hml hv
  obtain ⟨rfl, hU, hK⟩ := hv
  have hx := B.exec
  have hb := B.bytes
  have hr0 := B.returns
  have hts := atoms_spec (ws := wsX11_margin) B.pre
  have hown : s.vm.findClass RX11 = some m.cls := findClass_of_methodNamed B.named
  have hlocks := B.notSynchronized
  have S : CallFix p m c cX11_margin 3 s ([.ref (sk_ad G 0), .int (iI p1)].toArray) wsX11_margin RX11 := ⟨hx, hb, hml, hown, hts⟩
  have hL0 := hts (.fieldLink RX11 54 "SkyLights" "show" "LSkyLights$Show;") (by decide +kernel)
  have hI9 : ∀ w ∈ u_ws RX9 TX9 5, w ∈ wsX11_margin := by decide +kernel
  have hI11 : ∀ w ∈ u_ws RX11 TX11 8, w ∈ wsX11_margin := by decide +kernel
  have hw : sk_W G 198 sk_t I s s.heap [] := ⟨hU, va_S.rf⟩
  have hl := lv_entry ([.ref (sk_ad G 0), .int (iI p1)]) (n := 3) (Nat.le_of_ble_eq_true rfl)
  rw [lg_entry_eq]
  generalize (lg_sl ([.ref (sk_ad G 0), .int (iI p1)]) ++ List.replicate (3 - (lg_sl ([.ref (sk_ad G 0), .int (iI p1)])).length) Slot.unset).toArray = ls at hl ⊢
  have hl : lv_has ls 3 [(0, .ref (sk_ad G 0)), (1, .int (iI p1))] := hl
  suffices hgo : ∀ (H : Heap) (locs : List Loc), sk_W G 198 sk_t I s H locs → W p l e (headSpec wsX11_margin rmX11_margin).room s m ([.ref (sk_ad G 0), .int (iI p1)].toArray) below meth c H locs 0 0 (MQ below (sk_Qi G 198 sk_t Q) ([.ref (sk_ad G 0), .int (iI p1)].toArray) s 0 0 (sk_A G)) (F0 m 0 ls []) from hgo _ _ hw
  unfold M_Sky_margin at hM
  intro H locs hw
  refine lv_iload_n hx hb (okX11_margin (0, .iload_n 1, 1) (List.mem_of_getElem? (i := 0) rfl)) rfl (lv_at hl 1 rfl) ?_
  refine lv_iconst (v := iI 0) hx hb (okX11_margin (1, .iconst 0, 1) (List.mem_of_getElem? (i := 1) rfl)) rfl ?_
  refine lv_sipush (v := iI 10000) hx hb (okX11_margin (2, .sipush 10000, 3) (List.mem_of_getElem? (i := 2) rfl)) (by decide +kernel) ?_
  refine sk_ci (sk_runS (As := [.int (iI p1), .int (iI 0), .int (iI 10000)]) (rest := []) S (c_Sky_isWithin l G hr_p1 (by decide) (by decide) hM) sk_blind gX11_margin_X11_isWithin rfl hdX11_isWithin ⟨⟨rfl, rfl⟩, Nat.le_of_ble_eq_true rfl, Nat.le_of_ble_eq_true rfl⟩ (sk_pre hK hw) rfl hl.1 rfl (Nat.le_of_ble_eq_true rfl) (okX11_margin (5, .invokestatic 70, 3) (List.mem_of_getElem? (i := 3) rfl)) ⟨Nat.zero_le _, Nat.zero_le _⟩) hw (fun r_5 I_5 H locs hr_r_5 hM hw => ?_)
  obtain ⟨hb_r_5, hM⟩ := hM
  refine sk_if_ne (tgt := 14) hx hb hr_r_5 (okX11_margin (8, .ifCond .ne 6, 3) (List.mem_of_getElem? (i := 4) rfl)) (by decide) (fun c8 => ?_) (fun c8 => ?_)
  · have hM := hM.1 c8
    refine lv_aload_n hx hb (okX11_margin (14, .aload_n 0, 1) (List.mem_of_getElem? (i := 7) rfl)) rfl (lv_at hl 0 rfl) ?_
    refine sk_getr (b := 54) S hK hw kdn_0 (kd_in kdn_0) (C := RX11) (T := TX11) (N := 8) rfl hI11 6 ⟨by decide, rfl, by decide, rfl⟩ rfl (k' := 6) rfl rfl (by decide +kernel) hL0 (okX11_margin (15, .getfield 54, 3) (List.mem_of_getElem? (i := 8) rfl)) ?_
    have hr1 := hw.1.2.2 54 4
    refine sk_getiN S hK hw kdn_54 (kd_in kdn_54) (C := RX9) (T := TX9) (N := 5) rfl hI9 4 ⟨by decide, rfl, by decide, rfl⟩ rfl (k' := 4) rfl (va_Nw.use rfl (hK.2.1 ("SkyLights", 226, "SkyLights$Show", "margin", "I") (by decide +kernel))) (okX11_margin (18, .getfield 226, 3) (List.mem_of_getElem? (i := 9) rfl)) ?_
    refine sk_nm (fun v2_21 ev2_21 => ?_)
    have hM := hM v2_21 ev2_21
    have hr_v2_21 : rI v2_21 := by rw [ev2_21]; exact hr1
    refine lv_istore_n (lv' := [(2, .int (iI v2_21)), (0, .ref (sk_ad G 0)), (1, .int (iI p1))]) hx hb (okX11_margin (21, .istore_n 2, 1) (List.mem_of_getElem? (i := 10) rfl)) rfl hl (by decide) rfl (fun ls hl => ?_)
    refine lv_aload_n hx hb (okX11_margin (22, .aload_n 0, 1) (List.mem_of_getElem? (i := 11) rfl)) rfl (lv_at hl 1 rfl) ?_
    refine sk_getr (b := 54) S hK hw kdn_0 (kd_in kdn_0) (C := RX11) (T := TX11) (N := 8) rfl hI11 6 ⟨by decide, rfl, by decide, rfl⟩ rfl (k' := 6) rfl rfl (by decide +kernel) hL0 (okX11_margin (23, .getfield 54, 3) (List.mem_of_getElem? (i := 12) rfl)) ?_
    refine lv_iload_n hx hb (okX11_margin (26, .iload_n 1, 1) (List.mem_of_getElem? (i := 13) rfl)) rfl (lv_at hl 2 rfl) ?_
    refine sk_putN S hK hw kdn_54 (kd_in kdn_54) (C := RX9) (T := TX9) (N := 5) rfl hI9 tyX9 tyX9_ok nmX9 4 ⟨by decide, rfl, by decide, rfl⟩ rfl rfl (k' := 4) rfl hr_p1 ⟨rfl, rfl⟩ (va_Nw.use rfl (hK.2.1 ("SkyLights", 226, "SkyLights$Show", "margin", "I") (by decide +kernel))) (okX11_margin (27, .putfield 226, 3) (List.mem_of_getElem? (i := 14) rfl)) (fun H locs hw => ?_)
    refine lv_iload_n hx hb (okX11_margin (30, .iload_n 2, 1) (List.mem_of_getElem? (i := 15) rfl)) rfl (lv_at hl 0 rfl) ?_
    exact sk_iret hx hb hr0 hlocks hK hw hr_v2_21 hM (okX11_margin (31, .ireturn, 1) (List.mem_of_getElem? (i := 16) rfl))
  · have hM := hM.2 c8
    refine lv_bipush (v := iI (-2)) hx hb (okX11_margin (11, .bipush (-2), 2) (List.mem_of_getElem? (i := 5) rfl)) (by decide +kernel) ?_
    exact sk_iret hx hb hr0 hlocks hK hw (by decide) hM (okX11_margin (13, .ireturn, 1) (List.mem_of_getElem? (i := 6) rfl))
