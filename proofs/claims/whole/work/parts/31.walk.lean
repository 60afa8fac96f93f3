def rmX12_number : Room := { frames := 2, cells := 0, slots := 0, locals := 105 }
set_option maxHeartbeats 4000000 in
set_option maxRecDepth 100000 in
theorem c_Mo_number (l : Launch) (G : sk_G) {p1 : Int} (hr_p1 : rI p1) {Q : Int → sk_S → Prop} {I : sk_S} (hM : M_Mo_number p1 Q I) : Met l yX12_number wsX12_number rmX12_number (va_Pc [.ref (sk_ad G 158), .int (iI p1)] (sk_U G 198 sk_t I)) (sk_Qz G 198 sk_t Q) 0 0 (sk_A G) := by
  refine Met.ofW (cc := cX12_number) (maxL := 5) (ret := (some .boolean)) (by decide) rfl ?_
  intro p e s m args below meth c s₁ B hml hv
  obtain ⟨rfl, hU, hK⟩ := hv
  have hx := B.exec
  have hb := B.bytes
  have hr0 := B.returns
  have hts := atoms_spec (ws := wsX12_number) B.pre
  have hown : s.vm.findClass RX12 = some m.cls := findClass_of_methodNamed B.named
  have hlocks := B.notSynchronized
  have S : CallFix p m c cX12_number 5 s ([.ref (sk_ad G 158), .int (iI p1)].toArray) wsX12_number RX12 := ⟨hx, hb, hml, hown, hts⟩
  have hL0 := hts (.fieldLink RX12 166 "SkyLightsModel" "at" "I") (by decide +kernel)
  have hL1 := hts (.fieldLink RX12 180 "SkyLightsModel" "number" "I") (by decide +kernel)
  have hI12 : ∀ w ∈ u_ws RX12 TX12 53, w ∈ wsX12_number := by decide +kernel
  have hw : sk_W G 198 sk_t I s s.heap [] := ⟨hU, va_S.rf⟩
  have hl := lv_entry ([.ref (sk_ad G 158), .int (iI p1)]) (n := 5) (Nat.le_of_ble_eq_true rfl)
  rw [lg_entry_eq]
  generalize (lg_sl ([.ref (sk_ad G 158), .int (iI p1)]) ++ List.replicate (5 - (lg_sl ([.ref (sk_ad G 158), .int (iI p1)])).length) Slot.unset).toArray = ls at hl ⊢
  have hl : lv_has ls 5 [(0, .ref (sk_ad G 158)), (1, .int (iI p1))] := hl
  suffices hgo : ∀ (H : Heap) (locs : List Loc), sk_W G 198 sk_t I s H locs → W p l e (headSpec wsX12_number rmX12_number).room s m ([.ref (sk_ad G 158), .int (iI p1)].toArray) below meth c H locs 0 0 (MQ below (sk_Qz G 198 sk_t Q) ([.ref (sk_ad G 158), .int (iI p1)].toArray) s 0 0 (sk_A G)) (F0 m 0 ls []) from hgo _ _ hw
  have hJ_116 : ∀ (v2 v3 : Int) (I : sk_S), rI v2 → rI v3 → J_Mo_number_116 v2 v3 Q I → ∀ (H : Heap) (locs : List Loc) (ls : Array Slot), sk_W G 198 sk_t I s H locs → lv_has ls 5 [(0, .ref (sk_ad G 158)), (2, .int (iI v2)), (3, .int (iI v3))] → W p l e (headSpec wsX12_number rmX12_number).room s m ([.ref (sk_ad G 158), .int (iI p1)].toArray) below meth c H locs 0 0 (MQ below (sk_Qz G 198 sk_t Q) ([.ref (sk_ad G 158), .int (iI p1)].toArray) s 0 0 (sk_A G)) (F0 m 116 ls []) := by
    intro v2 v3 I hr_v2 hr_v3 hM H locs ls hw hl
    unfold J_Mo_number_116 at hM
    refine lv_aload_n hx hb (okX12_number (116, .aload_n 0, 1) (List.mem_of_getElem? (i := 62) rfl)) rfl (lv_at hl 0 rfl) ?_
    refine lv_iload_n hx hb (okX12_number (117, .iload_n 2, 1) (List.mem_of_getElem? (i := 63) rfl)) rfl (lv_at hl 1 rfl) ?_
    refine sk_if_eq (tgt := 126) hx hb hr_v2 (okX12_number (118, .ifCond .eq 8, 3) (List.mem_of_getElem? (i := 64) rfl)) (by decide) (fun c118 => ?_) (fun c118 => ?_)
    · have hM := hM.1 c118
      refine lv_iload_n hx hb (okX12_number (126, .iload_n 3, 1) (List.mem_of_getElem? (i := 68) rfl)) rfl (lv_at hl 2 rfl) ?_
      refine sk_put S hK hw kdn_158 (kd_in kdn_158) (C := RX12) (T := TX12) (N := 53) rfl hI12 tyX12 tyX12_ok nmX12 17 ⟨by decide, rfl, by decide, rfl⟩ rfl rfl (k' := 17) rfl hr_v3 ⟨rfl, rfl⟩ hL1 (okX12_number (127, .putfield 180, 3) (List.mem_of_getElem? (i := 69) rfl)) (fun H locs hw => ?_)
      refine lv_iconst (v := iI 1) hx hb (okX12_number (130, .iconst 1, 1) (List.mem_of_getElem? (i := 70) rfl)) rfl ?_
      exact sk_zret hx hb hr0 hlocks hK hw (Or.inr rfl) hM (okX12_number (131, .ireturn, 1) (List.mem_of_getElem? (i := 71) rfl))
    · have hM := hM.2 c118
      refine lv_iload_n hx hb (okX12_number (121, .iload_n 3, 1) (List.mem_of_getElem? (i := 65) rfl)) rfl (lv_at hl 2 rfl) ?_
      refine sk_ineg hx hb (okX12_number (122, .ineg, 1) (List.mem_of_getElem? (i := 66) rfl)) ?_
      refine lv_goto (tgt := 127) hx hb (okX12_number (123, .goto 4, 3) (List.mem_of_getElem? (i := 67) rfl)) (by decide) ?_
      obtain ⟨hr7, hM⟩ := hM
      refine sk_put S hK hw kdn_158 (kd_in kdn_158) (C := RX12) (T := TX12) (N := 53) rfl hI12 tyX12 tyX12_ok nmX12 17 ⟨by decide, rfl, by decide, rfl⟩ rfl rfl (k' := 17) rfl hr7 ⟨rfl, rfl⟩ hL1 (okX12_number (127, .putfield 180, 3) (List.mem_of_getElem? (i := 69) rfl)) (fun H locs hw => ?_)
      refine lv_iconst (v := iI 1) hx hb (okX12_number (130, .iconst 1, 1) (List.mem_of_getElem? (i := 70) rfl)) rfl ?_
      exact sk_zret hx hb hr0 hlocks hK hw (Or.inr rfl) hM (okX12_number (131, .ireturn, 1) (List.mem_of_getElem? (i := 71) rfl))
  have hJ_62 : ∀ (v2 v3 : Int) (I : sk_S), rI v2 → rI v3 → L_Mo_number_62 v2 Q v3 I → ∀ (H : Heap) (locs : List Loc) (ls : Array Slot), sk_W G 198 sk_t I s H locs → lv_has ls 5 [(0, .ref (sk_ad G 158)), (2, .int (iI v2)), (3, .int (iI v3))] → W p l e (headSpec wsX12_number rmX12_number).room s m ([.ref (sk_ad G 158), .int (iI p1)].toArray) below meth c H locs 0 0 (MQ below (sk_Qz G 198 sk_t Q) ([.ref (sk_ad G 158), .int (iI p1)].toArray) s 0 0 (sk_A G)) (F0 m 62 ls []) := by
    intro v2 v3 I hr_v2 hr_v3 hM H locs ls hw hl
    unfold L_Mo_number_62 at hM
    obtain ⟨X_62, hX_62⟩ : ∃ X : Int → sk_S → Prop, ∀ (v3 : Int) (I : sk_S), X v3 I ↔ (rI v3 → ∀ (H : Heap) (locs : List Loc) (ls : Array Slot), sk_W G 198 sk_t I s H locs → lv_has ls 5 [(0, .ref (sk_ad G 158)), (2, .int (iI v2)), (3, .int (iI v3))] → W p l e (headSpec wsX12_number rmX12_number).room s m ([.ref (sk_ad G 158), .int (iI p1)].toArray) below meth c H locs 0 0 (MQ below (sk_Qz G 198 sk_t Q) ([.ref (sk_ad G 158), .int (iI p1)].toArray) s 0 0 (sk_A G)) (F0 m 62 ls [])) := ⟨_, fun _ _ => Iff.rfl⟩
    refine (hX_62 v3 I).1 (hM X_62 (fun v3 I hM => (hX_62 v3 I).2 (fun hr_v3 H locs ls hw hl => ?_))) hr_v3 H locs ls hw hl
    refine lv_aload_n hx hb (okX12_number (62, .aload_n 0, 1) (List.mem_of_getElem? (i := 33) rfl)) rfl (lv_at hl 0 rfl) ?_
    refine sk_ci (sk_runV (a := 158) (C := RX12) (As := []) (rest := []) S (c_Mo_sign l G hM) sk_blind gX12_number_X12_sign rfl hdX12_sign ⟨⟨rfl, rfl⟩, Nat.le_of_ble_eq_true rfl, Nat.le_of_ble_eq_true rfl⟩ (sk_recv hK hw kdn_158 (kd_in kdn_158) (by decide) rfl) (sk_pre hK hw) rfl hl.1 rfl (Nat.le_of_ble_eq_true rfl) (okX12_number (63, .invokevirtual 169, 3) (List.mem_of_getElem? (i := 34) rfl)) ⟨Nat.zero_le _, Nat.zero_le _⟩) hw (fun r_63 I_63 H locs hr_r_63 hM hw => ?_)
    refine sk_ci (sk_runS (As := [.int (iI r_63)]) (rest := []) S (c_Mo_isDigit l G hr_r_63 hM) sk_blind gX12_number_X12_isDigit rfl hdX12_isDigit ⟨⟨rfl, rfl⟩, Nat.le_of_ble_eq_true rfl, Nat.le_of_ble_eq_true rfl⟩ (sk_pre hK hw) rfl hl.1 rfl (Nat.le_of_ble_eq_true rfl) (okX12_number (66, .invokestatic 177, 3) (List.mem_of_getElem? (i := 35) rfl)) ⟨Nat.zero_le _, Nat.zero_le _⟩) hw (fun r_66 I_66 H locs hr_r_66 hM hw => ?_)
    obtain ⟨hb_r_66, hM⟩ := hM
    refine sk_if_eq (tgt := 116) hx hb hr_r_66 (okX12_number (69, .ifCond .eq 47, 3) (List.mem_of_getElem? (i := 36) rfl)) (by decide) (fun c69 => ?_) (fun c69 => ?_)
    · have hM := hM.1 c69
      exact hJ_116 v2 v3 I_66 hr_v2 hr_v3 hM H locs ls hw (lv_sub hl [0, 1, 2] rfl)
    · have hM := hM.2 c69
      refine lv_bipush (v := iI 10) hx hb (okX12_number (72, .bipush 10, 2) (List.mem_of_getElem? (i := 37) rfl)) (by decide +kernel) ?_
      refine lv_iload_n hx hb (okX12_number (74, .iload_n 3, 1) (List.mem_of_getElem? (i := 38) rfl)) rfl (lv_at hl 2 rfl) ?_
      refine sk_imul hx hb (okX12_number (75, .imul, 1) (List.mem_of_getElem? (i := 39) rfl)) ?_
      refine lv_aload_n hx hb (okX12_number (76, .aload_n 0, 1) (List.mem_of_getElem? (i := 40) rfl)) rfl (lv_at hl 0 rfl) ?_
      refine sk_ci (sk_runV (a := 158) (C := RX12) (As := []) (rest := [.int (iI (10 * v3))]) S (c_Mo_sign l G hM) sk_blind gX12_number_X12_sign rfl hdX12_sign ⟨⟨rfl, rfl⟩, Nat.le_of_ble_eq_true rfl, Nat.le_of_ble_eq_true rfl⟩ (sk_recv hK hw kdn_158 (kd_in kdn_158) (by decide) rfl) (sk_pre hK hw) rfl hl.1 rfl (Nat.le_of_ble_eq_true rfl) (okX12_number (77, .invokevirtual 169, 3) (List.mem_of_getElem? (i := 41) rfl)) ⟨Nat.zero_le _, Nat.zero_le _⟩) hw (fun r_77 I_77 H locs hr_r_77 hM hw => ?_)
      refine sk_iadd hx hb (okX12_number (80, .iadd, 1) (List.mem_of_getElem? (i := 42) rfl)) ?_
      refine lv_bipush (v := iI 48) hx hb (okX12_number (81, .bipush 48, 2) (List.mem_of_getElem? (i := 43) rfl)) (by decide +kernel) ?_
      refine sk_isub hx hb (okX12_number (83, .isub, 1) (List.mem_of_getElem? (i := 44) rfl)) ?_
      obtain ⟨hr4, hM⟩ := hM
      refine sk_nm (fun v4_84 ev4_84 => ?_)
      have hM := hM v4_84 ev4_84
      have hr_v4_84 : rI v4_84 := by rw [ev4_84]; exact hr4
      refine lv_istore (lv' := [(4, .int (iI v4_84)), (0, .ref (sk_ad G 158)), (2, .int (iI v2)), (3, .int (iI v3))]) hx hb (okX12_number (84, .istore 4, 2) (List.mem_of_getElem? (i := 45) rfl)) hl (by decide) rfl (fun ls hl => ?_)
      refine lv_iload_n hx hb (okX12_number (86, .iload_n 3, 1) (List.mem_of_getElem? (i := 46) rfl)) rfl (lv_at hl 3 rfl) ?_
      refine sk_if_eq (tgt := 98) hx hb hr_v3 (okX12_number (87, .ifCond .eq 11, 3) (List.mem_of_getElem? (i := 47) rfl)) (by decide) (fun c87 => ?_) (fun c87 => ?_)
      · have hM := hM.1 c87
        refine lv_iconst (v := iI 0) hx hb (okX12_number (98, .iconst 0, 1) (List.mem_of_getElem? (i := 51) rfl)) rfl ?_
        exact sk_zret hx hb hr0 hlocks hK hw (Or.inl rfl) hM (okX12_number (99, .ireturn, 1) (List.mem_of_getElem? (i := 52) rfl))
      · have hM := hM.2 c87
        refine lv_iload hx hb (okX12_number (90, .iload 4, 2) (List.mem_of_getElem? (i := 48) rfl)) (lv_at hl 0 rfl) ?_
        refine lv_sipush (v := iI 200) hx hb (okX12_number (92, .sipush 200, 3) (List.mem_of_getElem? (i := 49) rfl)) (by decide +kernel) ?_
        refine sk_icmp_le (tgt := 100) hx hb hr_v4_84 (by decide) (okX12_number (95, .if_icmp .le 5, 3) (List.mem_of_getElem? (i := 50) rfl)) (by decide) (fun c95 => ?_) (fun c95 => ?_)
        · have hM := hM.1 c95
          refine lv_iload hx hb (okX12_number (100, .iload 4, 2) (List.mem_of_getElem? (i := 53) rfl)) (lv_at hl 0 rfl) ?_
          refine lv_istore_n (lv' := [(3, .int (iI v4_84)), (4, .int (iI v4_84)), (0, .ref (sk_ad G 158)), (2, .int (iI v2))]) hx hb (okX12_number (102, .istore_n 3, 1) (List.mem_of_getElem? (i := 54) rfl)) rfl hl (by decide) rfl (fun ls hl => ?_)
          refine lv_aload_n hx hb (okX12_number (103, .aload_n 0, 1) (List.mem_of_getElem? (i := 55) rfl)) rfl (lv_at hl 2 rfl) ?_
          refine lv_dup hx hb (okX12_number (104, .dup, 1) (List.mem_of_getElem? (i := 56) rfl)) rfl ?_
          have hr5 := hw.1.2.2 158 16
          refine sk_geti S hK hw kdn_158 (kd_in kdn_158) (C := RX12) (T := TX12) (N := 53) rfl hI12 16 ⟨by decide, rfl, by decide, rfl⟩ rfl (k' := 16) rfl hL0 (okX12_number (105, .getfield 166, 3) (List.mem_of_getElem? (i := 57) rfl)) ?_
          refine lv_iconst (v := iI 1) hx hb (okX12_number (108, .iconst 1, 1) (List.mem_of_getElem? (i := 58) rfl)) rfl ?_
          refine sk_iadd hx hb (okX12_number (109, .iadd, 1) (List.mem_of_getElem? (i := 59) rfl)) ?_
          obtain ⟨hr6, hM⟩ := hM
          refine sk_put S hK hw kdn_158 (kd_in kdn_158) (C := RX12) (T := TX12) (N := 53) rfl hI12 tyX12 tyX12_ok nmX12 16 ⟨by decide, rfl, by decide, rfl⟩ rfl rfl (k' := 16) rfl hr6 ⟨rfl, rfl⟩ hL0 (okX12_number (110, .putfield 166, 3) (List.mem_of_getElem? (i := 60) rfl)) (fun H locs hw => ?_)
          refine lv_goto (tgt := 62) hx hb (okX12_number (113, .goto (-51), 3) (List.mem_of_getElem? (i := 61) rfl)) (by decide) ?_
          exact (hX_62 v4_84 (up I_77 158 16 ((I_77 158 16) + 1))).1 hM hr_v4_84 H locs ls hw (lv_sub hl [2, 3, 0] rfl)
        · have hM := hM.2 c95
          refine lv_iconst (v := iI 0) hx hb (okX12_number (98, .iconst 0, 1) (List.mem_of_getElem? (i := 51) rfl)) rfl ?_
          exact sk_zret hx hb hr0 hlocks hK hw (Or.inl rfl) hM (okX12_number (99, .ireturn, 1) (List.mem_of_getElem? (i := 52) rfl))
  have hJ_44 : ∀ (v2 : Int) (I : sk_S), rI v2 → J_Mo_number_44 v2 Q I → ∀ (H : Heap) (locs : List Loc) (ls : Array Slot), sk_W G 198 sk_t I s H locs → lv_has ls 5 [(0, .ref (sk_ad G 158)), (2, .int (iI v2))] → W p l e (headSpec wsX12_number rmX12_number).room s m ([.ref (sk_ad G 158), .int (iI p1)].toArray) below meth c H locs 0 0 (MQ below (sk_Qz G 198 sk_t Q) ([.ref (sk_ad G 158), .int (iI p1)].toArray) s 0 0 (sk_A G)) (F0 m 44 ls []) := by
    intro v2 I hr_v2 hM H locs ls hw hl
    unfold J_Mo_number_44 at hM
    refine lv_aload_n hx hb (okX12_number (44, .aload_n 0, 1) (List.mem_of_getElem? (i := 22) rfl)) rfl (lv_at hl 0 rfl) ?_
    refine sk_ci (sk_runV (a := 158) (C := RX12) (As := []) (rest := []) S (c_Mo_sign l G hM) sk_blind gX12_number_X12_sign rfl hdX12_sign ⟨⟨rfl, rfl⟩, Nat.le_of_ble_eq_true rfl, Nat.le_of_ble_eq_true rfl⟩ (sk_recv hK hw kdn_158 (kd_in kdn_158) (by decide) rfl) (sk_pre hK hw) rfl hl.1 rfl (Nat.le_of_ble_eq_true rfl) (okX12_number (45, .invokevirtual 169, 3) (List.mem_of_getElem? (i := 23) rfl)) ⟨Nat.zero_le _, Nat.zero_le _⟩) hw (fun r_45 I_45 H locs hr_r_45 hM hw => ?_)
    refine lv_bipush (v := iI 48) hx hb (okX12_number (48, .bipush 48, 2) (List.mem_of_getElem? (i := 24) rfl)) (by decide +kernel) ?_
    refine sk_isub hx hb (okX12_number (50, .isub, 1) (List.mem_of_getElem? (i := 25) rfl)) ?_
    obtain ⟨hr1, hM⟩ := hM
    refine sk_nm (fun v3_51 ev3_51 => ?_)
    have hM := hM v3_51 ev3_51
    have hr_v3_51 : rI v3_51 := by rw [ev3_51]; exact hr1
    refine lv_istore_n (lv' := [(3, .int (iI v3_51)), (0, .ref (sk_ad G 158)), (2, .int (iI v2))]) hx hb (okX12_number (51, .istore_n 3, 1) (List.mem_of_getElem? (i := 26) rfl)) rfl hl (by decide) rfl (fun ls hl => ?_)
    refine lv_aload_n hx hb (okX12_number (52, .aload_n 0, 1) (List.mem_of_getElem? (i := 27) rfl)) rfl (lv_at hl 1 rfl) ?_
    refine lv_dup hx hb (okX12_number (53, .dup, 1) (List.mem_of_getElem? (i := 28) rfl)) rfl ?_
    have hr2 := hw.1.2.2 158 16
    refine sk_geti S hK hw kdn_158 (kd_in kdn_158) (C := RX12) (T := TX12) (N := 53) rfl hI12 16 ⟨by decide, rfl, by decide, rfl⟩ rfl (k' := 16) rfl hL0 (okX12_number (54, .getfield 166, 3) (List.mem_of_getElem? (i := 29) rfl)) ?_
    refine lv_iconst (v := iI 1) hx hb (okX12_number (57, .iconst 1, 1) (List.mem_of_getElem? (i := 30) rfl)) rfl ?_
    refine sk_iadd hx hb (okX12_number (58, .iadd, 1) (List.mem_of_getElem? (i := 31) rfl)) ?_
    obtain ⟨hr3, hM⟩ := hM
    refine sk_put S hK hw kdn_158 (kd_in kdn_158) (C := RX12) (T := TX12) (N := 53) rfl hI12 tyX12 tyX12_ok nmX12 16 ⟨by decide, rfl, by decide, rfl⟩ rfl rfl (k' := 16) rfl hr3 ⟨rfl, rfl⟩ hL0 (okX12_number (59, .putfield 166, 3) (List.mem_of_getElem? (i := 32) rfl)) (fun H locs hw => ?_)
    exact hJ_62 v2 v3_51 (up I_45 158 16 ((I_45 158 16) + 1)) hr_v2 hr_v3_51 hM H locs ls hw (lv_sub hl [1, 2, 0] rfl)
  have hJ_18 : ∀ (s0 : Int) (I : sk_S), rI s0 → J_Mo_number_18 s0 Q I → ∀ (H : Heap) (locs : List Loc) (ls : Array Slot), sk_W G 198 sk_t I s H locs → lv_has ls 5 [(0, .ref (sk_ad G 158))] → W p l e (headSpec wsX12_number rmX12_number).room s m ([.ref (sk_ad G 158), .int (iI p1)].toArray) below meth c H locs 0 0 (MQ below (sk_Qz G 198 sk_t Q) ([.ref (sk_ad G 158), .int (iI p1)].toArray) s 0 0 (sk_A G)) (F0 m 18 ls [.int (iI s0)]) := by
    intro s0 I hr_s0 hM H locs ls hw hl
    unfold J_Mo_number_18 at hM
    refine lv_istore_n (lv' := [(2, .int (iI s0)), (0, .ref (sk_ad G 158))]) hx hb (okX12_number (18, .istore_n 2, 1) (List.mem_of_getElem? (i := 9) rfl)) rfl hl (by decide) rfl (fun ls hl => ?_)
    refine lv_aload_n hx hb (okX12_number (19, .aload_n 0, 1) (List.mem_of_getElem? (i := 10) rfl)) rfl (lv_at hl 1 rfl) ?_
    refine sk_ci (sk_runV (a := 158) (C := RX12) (As := []) (rest := []) S (c_Mo_sign l G hM) sk_blind gX12_number_X12_sign rfl hdX12_sign ⟨⟨rfl, rfl⟩, Nat.le_of_ble_eq_true rfl, Nat.le_of_ble_eq_true rfl⟩ (sk_recv hK hw kdn_158 (kd_in kdn_158) (by decide) rfl) (sk_pre hK hw) rfl hl.1 rfl (Nat.le_of_ble_eq_true rfl) (okX12_number (20, .invokevirtual 169, 3) (List.mem_of_getElem? (i := 11) rfl)) ⟨Nat.zero_le _, Nat.zero_le _⟩) hw (fun r_20 I_20 H locs hr_r_20 hM hw => ?_)
    refine sk_ci (sk_runS (As := [.int (iI r_20)]) (rest := []) S (c_Mo_isDigit l G hr_r_20 hM) sk_blind gX12_number_X12_isDigit rfl hdX12_isDigit ⟨⟨rfl, rfl⟩, Nat.le_of_ble_eq_true rfl, Nat.le_of_ble_eq_true rfl⟩ (sk_pre hK hw) rfl hl.1 rfl (Nat.le_of_ble_eq_true rfl) (okX12_number (23, .invokestatic 177, 3) (List.mem_of_getElem? (i := 12) rfl)) ⟨Nat.zero_le _, Nat.zero_le _⟩) hw (fun r_23 I_23 H locs hr_r_23 hM hw => ?_)
    obtain ⟨hb_r_23, hM⟩ := hM
    refine sk_if_eq (tgt := 42) hx hb hr_r_23 (okX12_number (26, .ifCond .eq 16, 3) (List.mem_of_getElem? (i := 13) rfl)) (by decide) (fun c26 => ?_) (fun c26 => ?_)
    · have hM := hM.1 c26
      refine lv_iconst (v := iI 0) hx hb (okX12_number (42, .iconst 0, 1) (List.mem_of_getElem? (i := 20) rfl)) rfl ?_
      exact sk_zret hx hb hr0 hlocks hK hw (Or.inl rfl) hM (okX12_number (43, .ireturn, 1) (List.mem_of_getElem? (i := 21) rfl))
    · have hM := hM.2 c26
      refine lv_iload_n hx hb (okX12_number (29, .iload_n 2, 1) (List.mem_of_getElem? (i := 14) rfl)) rfl (lv_at hl 0 rfl) ?_
      refine sk_if_eq (tgt := 44) hx hb hr_s0 (okX12_number (30, .ifCond .eq 14, 3) (List.mem_of_getElem? (i := 15) rfl)) (by decide) (fun c30 => ?_) (fun c30 => ?_)
      · have hM := hM.1 c30
        exact hJ_44 s0 I_23 hr_s0 hM H locs ls hw (lv_sub hl [1, 0] rfl)
      · have hM := hM.2 c30
        refine lv_aload_n hx hb (okX12_number (33, .aload_n 0, 1) (List.mem_of_getElem? (i := 16) rfl)) rfl (lv_at hl 1 rfl) ?_
        refine sk_ci (sk_runV (a := 158) (C := RX12) (As := []) (rest := []) S (c_Mo_sign l G hM) sk_blind gX12_number_X12_sign rfl hdX12_sign ⟨⟨rfl, rfl⟩, Nat.le_of_ble_eq_true rfl, Nat.le_of_ble_eq_true rfl⟩ (sk_recv hK hw kdn_158 (kd_in kdn_158) (by decide) rfl) (sk_pre hK hw) rfl hl.1 rfl (Nat.le_of_ble_eq_true rfl) (okX12_number (34, .invokevirtual 169, 3) (List.mem_of_getElem? (i := 17) rfl)) ⟨Nat.zero_le _, Nat.zero_le _⟩) hw (fun r_34 I_34 H locs hr_r_34 hM hw => ?_)
        refine lv_bipush (v := iI 48) hx hb (okX12_number (37, .bipush 48, 2) (List.mem_of_getElem? (i := 18) rfl)) (by decide +kernel) ?_
        refine sk_icmp_ne (tgt := 44) hx hb hr_r_34 (by decide) (okX12_number (39, .if_icmp .ne 5, 3) (List.mem_of_getElem? (i := 19) rfl)) (by decide) (fun c39 => ?_) (fun c39 => ?_)
        · have hM := hM.1 c39
          exact hJ_44 s0 I_34 hr_s0 hM H locs ls hw (lv_sub hl [1, 0] rfl)
        · have hM := hM.2 c39
          refine lv_iconst (v := iI 0) hx hb (okX12_number (42, .iconst 0, 1) (List.mem_of_getElem? (i := 20) rfl)) rfl ?_
          exact sk_zret hx hb hr0 hlocks hK hw (Or.inl rfl) hM (okX12_number (43, .ireturn, 1) (List.mem_of_getElem? (i := 21) rfl))
  have hJ_17 : ∀ (I : sk_S), J_Mo_number_17 Q I → ∀ (H : Heap) (locs : List Loc) (ls : Array Slot), sk_W G 198 sk_t I s H locs → lv_has ls 5 [(0, .ref (sk_ad G 158))] → W p l e (headSpec wsX12_number rmX12_number).room s m ([.ref (sk_ad G 158), .int (iI p1)].toArray) below meth c H locs 0 0 (MQ below (sk_Qz G 198 sk_t Q) ([.ref (sk_ad G 158), .int (iI p1)].toArray) s 0 0 (sk_A G)) (F0 m 17 ls []) := by
    intro I hM H locs ls hw hl
    unfold J_Mo_number_17 at hM
    refine lv_iconst (v := iI 0) hx hb (okX12_number (17, .iconst 0, 1) (List.mem_of_getElem? (i := 8) rfl)) rfl ?_
    exact hJ_18 0 I (by decide) hM H locs ls hw (lv_sub hl [0] rfl)
  unfold M_Mo_number at hM
  intro H locs hw
  refine lv_iload_n hx hb (okX12_number (0, .iload_n 1, 1) (List.mem_of_getElem? (i := 0) rfl)) rfl (lv_at hl 1 rfl) ?_
  refine sk_if_eq (tgt := 17) hx hb hr_p1 (okX12_number (1, .ifCond .eq 16, 3) (List.mem_of_getElem? (i := 1) rfl)) (by decide) (fun c1 => ?_) (fun c1 => ?_)
  · have hM := hM.1 c1
    exact hJ_17 I hM H locs ls hw (lv_sub hl [0] rfl)
  · have hM := hM.2 c1
    refine lv_aload_n hx hb (okX12_number (4, .aload_n 0, 1) (List.mem_of_getElem? (i := 2) rfl)) rfl (lv_at hl 0 rfl) ?_
    refine lv_bipush (v := iI 45) hx hb (okX12_number (5, .bipush 45, 2) (List.mem_of_getElem? (i := 3) rfl)) (by decide +kernel) ?_
    refine sk_ci (sk_runV (a := 158) (C := RX12) (As := [.int (iI 45)]) (rest := []) S (c_Mo_takes l G (by decide) hM) sk_blind gX12_number_X12_takes rfl hdX12_takes ⟨⟨rfl, rfl⟩, Nat.le_of_ble_eq_true rfl, Nat.le_of_ble_eq_true rfl⟩ (sk_recv hK hw kdn_158 (kd_in kdn_158) (by decide) rfl) (sk_pre hK hw) rfl hl.1 rfl (Nat.le_of_ble_eq_true rfl) (okX12_number (7, .invokevirtual 173, 3) (List.mem_of_getElem? (i := 4) rfl)) ⟨Nat.zero_le _, Nat.zero_le _⟩) hw (fun r_7 I_7 H locs hr_r_7 hM hw => ?_)
    obtain ⟨hb_r_7, hM⟩ := hM
    refine sk_if_eq (tgt := 17) hx hb hr_r_7 (okX12_number (10, .ifCond .eq 7, 3) (List.mem_of_getElem? (i := 5) rfl)) (by decide) (fun c10 => ?_) (fun c10 => ?_)
    · have hM := hM.1 c10
      exact hJ_17 I_7 hM H locs ls hw (lv_sub hl [0] rfl)
    · have hM := hM.2 c10
      refine lv_iconst (v := iI 1) hx hb (okX12_number (13, .iconst 1, 1) (List.mem_of_getElem? (i := 6) rfl)) rfl ?_
      refine lv_goto (tgt := 18) hx hb (okX12_number (14, .goto 4, 3) (List.mem_of_getElem? (i := 7) rfl)) (by decide) ?_
      exact hJ_18 1 I_7 (by decide) hM H locs ls hw (lv_sub hl [0] rfl)
def rmX12_point : Room := { frames := 3, cells := 0, slots := 0, locals := 161 }
set_option maxHeartbeats 4000000 in
set_option maxRecDepth 100000 in
theorem c_Mo_point (l : Launch) (G : sk_G) {p1 : Int} (hr_p1 : rI p1) {Q : Int → sk_S → Prop} {I : sk_S} (hM : M_Mo_point p1 Q I) : Met l yX12_point wsX12_point rmX12_point (va_Pc [.ref (sk_ad G 158), .int (iI p1)] (sk_U G 198 sk_t I)) (sk_Qz G 198 sk_t Q) 0 0 (sk_A G) := by
  refine Met.ofW (cc := cX12_point) (maxL := 2) (ret := (some .boolean)) (by decide) rfl ?_
  intro p e s m args below meth c s₁ B hml hv
  obtain ⟨rfl, hU, hK⟩ := hv
  have hx := B.exec
  have hb := B.bytes
  have hr0 := B.returns
  have hts := atoms_spec (ws := wsX12_point) B.pre
  have hown : s.vm.findClass RX12 = some m.cls := findClass_of_methodNamed B.named
  have hlocks := B.notSynchronized
  have S : CallFix p m c cX12_point 2 s ([.ref (sk_ad G 158), .int (iI p1)].toArray) wsX12_point RX12 := ⟨hx, hb, hml, hown, hts⟩
  have hL0 := hts (.fieldLink RX12 22 "SkyLightsModel" "pointX" "[I") (by decide +kernel)
  have hL1 := hts (.fieldLink RX12 180 "SkyLightsModel" "number" "I") (by decide +kernel)
  have hL2 := hts (.fieldLink RX12 25 "SkyLightsModel" "pointY" "[I") (by decide +kernel)
  have hL3 := hts (.fieldLink RX12 28 "SkyLightsModel" "pointZ" "[I") (by decide +kernel)
  have hL4 := hts (.fieldLink RX12 31 "SkyLightsModel" "worth" "[I") (by decide +kernel)
  have hL5 := hts (.fieldLink RX12 166 "SkyLightsModel" "at" "I") (by decide +kernel)
  have hI12 : ∀ w ∈ u_ws RX12 TX12 53, w ∈ wsX12_point := by decide +kernel
  have hw : sk_W G 198 sk_t I s s.heap [] := ⟨hU, va_S.rf⟩
  have hl := lv_entry ([.ref (sk_ad G 158), .int (iI p1)]) (n := 2) (Nat.le_of_ble_eq_true rfl)
  rw [lg_entry_eq]
  generalize (lg_sl ([.ref (sk_ad G 158), .int (iI p1)]) ++ List.replicate (2 - (lg_sl ([.ref (sk_ad G 158), .int (iI p1)])).length) Slot.unset).toArray = ls at hl ⊢
  have hl : lv_has ls 2 [(0, .ref (sk_ad G 158)), (1, .int (iI p1))] := hl
  suffices hgo : ∀ (H : Heap) (locs : List Loc), sk_W G 198 sk_t I s H locs → W p l e (headSpec wsX12_point rmX12_point).room s m ([.ref (sk_ad G 158), .int (iI p1)].toArray) below meth c H locs 0 0 (MQ below (sk_Qz G 198 sk_t Q) ([.ref (sk_ad G 158), .int (iI p1)].toArray) s 0 0 (sk_A G)) (F0 m 0 ls []) from hgo _ _ hw
  unfold M_Mo_point at hM
  intro H locs hw
  refine lv_aload_n hx hb (okX12_point (0, .aload_n 0, 1) (List.mem_of_getElem? (i := 0) rfl)) rfl (lv_at hl 0 rfl) ?_
  refine lv_iconst (v := iI 1) hx hb (okX12_point (1, .iconst 1, 1) (List.mem_of_getElem? (i := 1) rfl)) rfl ?_
  refine sk_ci (sk_runV (a := 158) (C := RX12) (As := [.int (iI 1)]) (rest := []) S (c_Mo_number l G (by decide) hM) sk_blind gX12_point_X12_number rfl hdX12_number ⟨⟨rfl, rfl⟩, Nat.le_of_ble_eq_true rfl, Nat.le_of_ble_eq_true rfl⟩ (sk_recv hK hw kdn_158 (kd_in kdn_158) (by decide) rfl) (sk_pre hK hw) rfl hl.1 rfl (Nat.le_of_ble_eq_true rfl) (okX12_point (2, .invokevirtual 183, 3) (List.mem_of_getElem? (i := 2) rfl)) ⟨Nat.zero_le _, Nat.zero_le _⟩) hw (fun r_2 I_2 H locs hr_r_2 hM hw => ?_)
  obtain ⟨hb_r_2, hM⟩ := hM
  refine sk_if_ne (tgt := 10) hx hb hr_r_2 (okX12_point (5, .ifCond .ne 5, 3) (List.mem_of_getElem? (i := 3) rfl)) (by decide) (fun c5 => ?_) (fun c5 => ?_)
  · have hM := hM.1 c5
    refine lv_aload_n hx hb (okX12_point (10, .aload_n 0, 1) (List.mem_of_getElem? (i := 6) rfl)) rfl (lv_at hl 0 rfl) ?_
    refine sk_getr (b := 163) S hK hw kdn_158 (kd_in kdn_158) (C := RX12) (T := TX12) (N := 53) rfl hI12 4 ⟨by decide, rfl, by decide, rfl⟩ rfl (k' := 4) rfl rfl (by decide +kernel) hL0 (okX12_point (11, .getfield 22, 3) (List.mem_of_getElem? (i := 7) rfl)) ?_
    refine lv_iload_n hx hb (okX12_point (14, .iload_n 1, 1) (List.mem_of_getElem? (i := 8) rfl)) rfl (lv_at hl 1 rfl) ?_
    refine lv_aload_n hx hb (okX12_point (15, .aload_n 0, 1) (List.mem_of_getElem? (i := 9) rfl)) rfl (lv_at hl 0 rfl) ?_
    have hr1 := hw.1.2.2 158 17
    refine sk_geti S hK hw kdn_158 (kd_in kdn_158) (C := RX12) (T := TX12) (N := 53) rfl hI12 17 ⟨by decide, rfl, by decide, rfl⟩ rfl (k' := 17) rfl hL1 (okX12_point (16, .getfield 180, 3) (List.mem_of_getElem? (i := 10) rfl)) ?_
    obtain ⟨hi2, hM⟩ := hM
    refine sk_ist S hK hw kdn_163 (kd_in kdn_163) (by rw [lnn_163]; exact hi2) hr1 (okX12_point (19, .iastore, 1) (List.mem_of_getElem? (i := 11) rfl)) (fun H locs hw => ?_)
    refine lv_aload_n hx hb (okX12_point (20, .aload_n 0, 1) (List.mem_of_getElem? (i := 12) rfl)) rfl (lv_at hl 0 rfl) ?_
    refine lv_bipush (v := iI 44) hx hb (okX12_point (21, .bipush 44, 2) (List.mem_of_getElem? (i := 13) rfl)) (by decide +kernel) ?_
    refine sk_ci (sk_runV (a := 158) (C := RX12) (As := [.int (iI 44)]) (rest := []) S (c_Mo_takes l G (by decide) hM) sk_blind gX12_point_X12_takes rfl hdX12_takes ⟨⟨rfl, rfl⟩, Nat.le_of_ble_eq_true rfl, Nat.le_of_ble_eq_true rfl⟩ (sk_recv hK hw kdn_158 (kd_in kdn_158) (by decide) rfl) (sk_pre hK hw) rfl hl.1 rfl (Nat.le_of_ble_eq_true rfl) (okX12_point (23, .invokevirtual 173, 3) (List.mem_of_getElem? (i := 14) rfl)) ⟨Nat.zero_le _, Nat.zero_le _⟩) hw (fun r_23 I_23 H locs hr_r_23 hM hw => ?_)
    obtain ⟨hb_r_23, hM⟩ := hM
    refine sk_if_eq (tgt := 37) hx hb hr_r_23 (okX12_point (26, .ifCond .eq 11, 3) (List.mem_of_getElem? (i := 15) rfl)) (by decide) (fun c26 => ?_) (fun c26 => ?_)
    · have hM := hM.1 c26
      refine lv_iconst (v := iI 0) hx hb (okX12_point (37, .iconst 0, 1) (List.mem_of_getElem? (i := 20) rfl)) rfl ?_
      exact sk_zret hx hb hr0 hlocks hK hw (Or.inl rfl) hM (okX12_point (38, .ireturn, 1) (List.mem_of_getElem? (i := 21) rfl))
    · have hM := hM.2 c26
      refine lv_aload_n hx hb (okX12_point (29, .aload_n 0, 1) (List.mem_of_getElem? (i := 16) rfl)) rfl (lv_at hl 0 rfl) ?_
      refine lv_iconst (v := iI 1) hx hb (okX12_point (30, .iconst 1, 1) (List.mem_of_getElem? (i := 17) rfl)) rfl ?_
      refine sk_ci (sk_runV (a := 158) (C := RX12) (As := [.int (iI 1)]) (rest := []) S (c_Mo_number l G (by decide) hM) sk_blind gX12_point_X12_number rfl hdX12_number ⟨⟨rfl, rfl⟩, Nat.le_of_ble_eq_true rfl, Nat.le_of_ble_eq_true rfl⟩ (sk_recv hK hw kdn_158 (kd_in kdn_158) (by decide) rfl) (sk_pre hK hw) rfl hl.1 rfl (Nat.le_of_ble_eq_true rfl) (okX12_point (31, .invokevirtual 183, 3) (List.mem_of_getElem? (i := 18) rfl)) ⟨Nat.zero_le _, Nat.zero_le _⟩) hw (fun r_31 I_31 H locs hr_r_31 hM hw => ?_)
      obtain ⟨hb_r_31, hM⟩ := hM
      refine sk_if_ne (tgt := 39) hx hb hr_r_31 (okX12_point (34, .ifCond .ne 5, 3) (List.mem_of_getElem? (i := 19) rfl)) (by decide) (fun c34 => ?_) (fun c34 => ?_)
      · have hM := hM.1 c34
        refine lv_aload_n hx hb (okX12_point (39, .aload_n 0, 1) (List.mem_of_getElem? (i := 22) rfl)) rfl (lv_at hl 0 rfl) ?_
        refine sk_getr (b := 164) S hK hw kdn_158 (kd_in kdn_158) (C := RX12) (T := TX12) (N := 53) rfl hI12 5 ⟨by decide, rfl, by decide, rfl⟩ rfl (k' := 5) rfl rfl (by decide +kernel) hL2 (okX12_point (40, .getfield 25, 3) (List.mem_of_getElem? (i := 23) rfl)) ?_
        refine lv_iload_n hx hb (okX12_point (43, .iload_n 1, 1) (List.mem_of_getElem? (i := 24) rfl)) rfl (lv_at hl 1 rfl) ?_
        refine lv_aload_n hx hb (okX12_point (44, .aload_n 0, 1) (List.mem_of_getElem? (i := 25) rfl)) rfl (lv_at hl 0 rfl) ?_
        have hr3 := hw.1.2.2 158 17
        refine sk_geti S hK hw kdn_158 (kd_in kdn_158) (C := RX12) (T := TX12) (N := 53) rfl hI12 17 ⟨by decide, rfl, by decide, rfl⟩ rfl (k' := 17) rfl hL1 (okX12_point (45, .getfield 180, 3) (List.mem_of_getElem? (i := 26) rfl)) ?_
        obtain ⟨hi4, hM⟩ := hM
        refine sk_ist S hK hw kdn_164 (kd_in kdn_164) (by rw [lnn_164]; exact hi4) hr3 (okX12_point (48, .iastore, 1) (List.mem_of_getElem? (i := 27) rfl)) (fun H locs hw => ?_)
        refine lv_aload_n hx hb (okX12_point (49, .aload_n 0, 1) (List.mem_of_getElem? (i := 28) rfl)) rfl (lv_at hl 0 rfl) ?_
        refine lv_bipush (v := iI 44) hx hb (okX12_point (50, .bipush 44, 2) (List.mem_of_getElem? (i := 29) rfl)) (by decide +kernel) ?_
        refine sk_ci (sk_runV (a := 158) (C := RX12) (As := [.int (iI 44)]) (rest := []) S (c_Mo_takes l G (by decide) hM) sk_blind gX12_point_X12_takes rfl hdX12_takes ⟨⟨rfl, rfl⟩, Nat.le_of_ble_eq_true rfl, Nat.le_of_ble_eq_true rfl⟩ (sk_recv hK hw kdn_158 (kd_in kdn_158) (by decide) rfl) (sk_pre hK hw) rfl hl.1 rfl (Nat.le_of_ble_eq_true rfl) (okX12_point (52, .invokevirtual 173, 3) (List.mem_of_getElem? (i := 30) rfl)) ⟨Nat.zero_le _, Nat.zero_le _⟩) hw (fun r_52 I_52 H locs hr_r_52 hM hw => ?_)
        obtain ⟨hb_r_52, hM⟩ := hM
        refine sk_if_eq (tgt := 66) hx hb hr_r_52 (okX12_point (55, .ifCond .eq 11, 3) (List.mem_of_getElem? (i := 31) rfl)) (by decide) (fun c55 => ?_) (fun c55 => ?_)
        · have hM := hM.1 c55
          refine lv_iconst (v := iI 0) hx hb (okX12_point (66, .iconst 0, 1) (List.mem_of_getElem? (i := 36) rfl)) rfl ?_
          exact sk_zret hx hb hr0 hlocks hK hw (Or.inl rfl) hM (okX12_point (67, .ireturn, 1) (List.mem_of_getElem? (i := 37) rfl))
        · have hM := hM.2 c55
          refine lv_aload_n hx hb (okX12_point (58, .aload_n 0, 1) (List.mem_of_getElem? (i := 32) rfl)) rfl (lv_at hl 0 rfl) ?_
          refine lv_iconst (v := iI 0) hx hb (okX12_point (59, .iconst 0, 1) (List.mem_of_getElem? (i := 33) rfl)) rfl ?_
          refine sk_ci (sk_runV (a := 158) (C := RX12) (As := [.int (iI 0)]) (rest := []) S (c_Mo_number l G (by decide) hM) sk_blind gX12_point_X12_number rfl hdX12_number ⟨⟨rfl, rfl⟩, Nat.le_of_ble_eq_true rfl, Nat.le_of_ble_eq_true rfl⟩ (sk_recv hK hw kdn_158 (kd_in kdn_158) (by decide) rfl) (sk_pre hK hw) rfl hl.1 rfl (Nat.le_of_ble_eq_true rfl) (okX12_point (60, .invokevirtual 183, 3) (List.mem_of_getElem? (i := 34) rfl)) ⟨Nat.zero_le _, Nat.zero_le _⟩) hw (fun r_60 I_60 H locs hr_r_60 hM hw => ?_)
          obtain ⟨hb_r_60, hM⟩ := hM
          refine sk_if_ne (tgt := 68) hx hb hr_r_60 (okX12_point (63, .ifCond .ne 5, 3) (List.mem_of_getElem? (i := 35) rfl)) (by decide) (fun c63 => ?_) (fun c63 => ?_)
          · have hM := hM.1 c63
            refine lv_aload_n hx hb (okX12_point (68, .aload_n 0, 1) (List.mem_of_getElem? (i := 38) rfl)) rfl (lv_at hl 0 rfl) ?_
            refine sk_getr (b := 165) S hK hw kdn_158 (kd_in kdn_158) (C := RX12) (T := TX12) (N := 53) rfl hI12 6 ⟨by decide, rfl, by decide, rfl⟩ rfl (k' := 6) rfl rfl (by decide +kernel) hL3 (okX12_point (69, .getfield 28, 3) (List.mem_of_getElem? (i := 39) rfl)) ?_
            refine lv_iload_n hx hb (okX12_point (72, .iload_n 1, 1) (List.mem_of_getElem? (i := 40) rfl)) rfl (lv_at hl 1 rfl) ?_
            refine lv_aload_n hx hb (okX12_point (73, .aload_n 0, 1) (List.mem_of_getElem? (i := 41) rfl)) rfl (lv_at hl 0 rfl) ?_
            have hr5 := hw.1.2.2 158 17
            refine sk_geti S hK hw kdn_158 (kd_in kdn_158) (C := RX12) (T := TX12) (N := 53) rfl hI12 17 ⟨by decide, rfl, by decide, rfl⟩ rfl (k' := 17) rfl hL1 (okX12_point (74, .getfield 180, 3) (List.mem_of_getElem? (i := 42) rfl)) ?_
            obtain ⟨hi6, hM⟩ := hM
            refine sk_ist S hK hw kdn_165 (kd_in kdn_165) (by rw [lnn_165]; exact hi6) hr5 (okX12_point (77, .iastore, 1) (List.mem_of_getElem? (i := 43) rfl)) (fun H locs hw => ?_)
            refine lv_aload_n hx hb (okX12_point (78, .aload_n 0, 1) (List.mem_of_getElem? (i := 44) rfl)) rfl (lv_at hl 0 rfl) ?_
            refine lv_bipush (v := iI 58) hx hb (okX12_point (79, .bipush 58, 2) (List.mem_of_getElem? (i := 45) rfl)) (by decide +kernel) ?_
            refine sk_ci (sk_runV (a := 158) (C := RX12) (As := [.int (iI 58)]) (rest := []) S (c_Mo_takes l G (by decide) hM) sk_blind gX12_point_X12_takes rfl hdX12_takes ⟨⟨rfl, rfl⟩, Nat.le_of_ble_eq_true rfl, Nat.le_of_ble_eq_true rfl⟩ (sk_recv hK hw kdn_158 (kd_in kdn_158) (by decide) rfl) (sk_pre hK hw) rfl hl.1 rfl (Nat.le_of_ble_eq_true rfl) (okX12_point (81, .invokevirtual 173, 3) (List.mem_of_getElem? (i := 46) rfl)) ⟨Nat.zero_le _, Nat.zero_le _⟩) hw (fun r_81 I_81 H locs hr_r_81 hM hw => ?_)
            obtain ⟨hb_r_81, hM⟩ := hM
            refine sk_if_eq (tgt := 97) hx hb hr_r_81 (okX12_point (84, .ifCond .eq 13, 3) (List.mem_of_getElem? (i := 47) rfl)) (by decide) (fun c84 => ?_) (fun c84 => ?_)
            · have hM := hM.1 c84
              refine lv_iconst (v := iI 0) hx hb (okX12_point (97, .iconst 0, 1) (List.mem_of_getElem? (i := 52) rfl)) rfl ?_
              exact sk_zret hx hb hr0 hlocks hK hw (Or.inl rfl) hM (okX12_point (98, .ireturn, 1) (List.mem_of_getElem? (i := 53) rfl))
            · have hM := hM.2 c84
              refine lv_aload_n hx hb (okX12_point (87, .aload_n 0, 1) (List.mem_of_getElem? (i := 48) rfl)) rfl (lv_at hl 0 rfl) ?_
              refine sk_ci (sk_runV (a := 158) (C := RX12) (As := []) (rest := []) S (c_Mo_sign l G hM) sk_blind gX12_point_X12_sign rfl hdX12_sign ⟨⟨rfl, rfl⟩, Nat.le_of_ble_eq_true rfl, Nat.le_of_ble_eq_true rfl⟩ (sk_recv hK hw kdn_158 (kd_in kdn_158) (by decide) rfl) (sk_pre hK hw) rfl hl.1 rfl (Nat.le_of_ble_eq_true rfl) (okX12_point (88, .invokevirtual 169, 3) (List.mem_of_getElem? (i := 49) rfl)) ⟨Nat.zero_le _, Nat.zero_le _⟩) hw (fun r_88 I_88 H locs hr_r_88 hM hw => ?_)
              refine sk_ci (sk_runS (As := [.int (iI r_88)]) (rest := []) S (c_Mo_isDigit l G hr_r_88 hM) sk_blind gX12_point_X12_isDigit rfl hdX12_isDigit ⟨⟨rfl, rfl⟩, Nat.le_of_ble_eq_true rfl, Nat.le_of_ble_eq_true rfl⟩ (sk_pre hK hw) rfl hl.1 rfl (Nat.le_of_ble_eq_true rfl) (okX12_point (91, .invokestatic 177, 3) (List.mem_of_getElem? (i := 50) rfl)) ⟨Nat.zero_le _, Nat.zero_le _⟩) hw (fun r_91 I_91 H locs hr_r_91 hM hw => ?_)
              obtain ⟨hb_r_91, hM⟩ := hM
              refine sk_if_ne (tgt := 99) hx hb hr_r_91 (okX12_point (94, .ifCond .ne 5, 3) (List.mem_of_getElem? (i := 51) rfl)) (by decide) (fun c94 => ?_) (fun c94 => ?_)
              · have hM := hM.1 c94
                refine lv_aload_n hx hb (okX12_point (99, .aload_n 0, 1) (List.mem_of_getElem? (i := 54) rfl)) rfl (lv_at hl 0 rfl) ?_
                refine sk_getr (b := 166) S hK hw kdn_158 (kd_in kdn_158) (C := RX12) (T := TX12) (N := 53) rfl hI12 7 ⟨by decide, rfl, by decide, rfl⟩ rfl (k' := 7) rfl rfl (by decide +kernel) hL4 (okX12_point (100, .getfield 31, 3) (List.mem_of_getElem? (i := 55) rfl)) ?_
                refine lv_iload_n hx hb (okX12_point (103, .iload_n 1, 1) (List.mem_of_getElem? (i := 56) rfl)) rfl (lv_at hl 1 rfl) ?_
                refine lv_aload_n hx hb (okX12_point (104, .aload_n 0, 1) (List.mem_of_getElem? (i := 57) rfl)) rfl (lv_at hl 0 rfl) ?_
                refine sk_ci (sk_runV (a := 158) (C := RX12) (As := []) (rest := [.int (iI p1), .ref (sk_ad G 166)]) S (c_Mo_sign l G hM) sk_blind gX12_point_X12_sign rfl hdX12_sign ⟨⟨rfl, rfl⟩, Nat.le_of_ble_eq_true rfl, Nat.le_of_ble_eq_true rfl⟩ (sk_recv hK hw kdn_158 (kd_in kdn_158) (by decide) rfl) (sk_pre hK hw) rfl hl.1 rfl (Nat.le_of_ble_eq_true rfl) (okX12_point (105, .invokevirtual 169, 3) (List.mem_of_getElem? (i := 58) rfl)) ⟨Nat.zero_le _, Nat.zero_le _⟩) hw (fun r_105 I_105 H locs hr_r_105 hM hw => ?_)
                refine lv_bipush (v := iI 48) hx hb (okX12_point (108, .bipush 48, 2) (List.mem_of_getElem? (i := 59) rfl)) (by decide +kernel) ?_
                refine sk_isub hx hb (okX12_point (110, .isub, 1) (List.mem_of_getElem? (i := 60) rfl)) ?_
                obtain ⟨hi7, hM⟩ := hM
                obtain ⟨hr8, hM⟩ := hM
                refine sk_ist S hK hw kdn_166 (kd_in kdn_166) (by rw [lnn_166]; exact hi7) hr8 (okX12_point (111, .iastore, 1) (List.mem_of_getElem? (i := 61) rfl)) (fun H locs hw => ?_)
                refine lv_aload_n hx hb (okX12_point (112, .aload_n 0, 1) (List.mem_of_getElem? (i := 62) rfl)) rfl (lv_at hl 0 rfl) ?_
                refine lv_dup hx hb (okX12_point (113, .dup, 1) (List.mem_of_getElem? (i := 63) rfl)) rfl ?_
                have hr9 := hw.1.2.2 158 16
                refine sk_geti S hK hw kdn_158 (kd_in kdn_158) (C := RX12) (T := TX12) (N := 53) rfl hI12 16 ⟨by decide, rfl, by decide, rfl⟩ rfl (k' := 16) rfl hL5 (okX12_point (114, .getfield 166, 3) (List.mem_of_getElem? (i := 64) rfl)) ?_
                refine lv_iconst (v := iI 1) hx hb (okX12_point (117, .iconst 1, 1) (List.mem_of_getElem? (i := 65) rfl)) rfl ?_
                refine sk_iadd hx hb (okX12_point (118, .iadd, 1) (List.mem_of_getElem? (i := 66) rfl)) ?_
                obtain ⟨hr10, hM⟩ := hM
                refine sk_put S hK hw kdn_158 (kd_in kdn_158) (C := RX12) (T := TX12) (N := 53) rfl hI12 tyX12 tyX12_ok nmX12 16 ⟨by decide, rfl, by decide, rfl⟩ rfl rfl (k' := 16) rfl hr10 ⟨rfl, rfl⟩ hL5 (okX12_point (119, .putfield 166, 3) (List.mem_of_getElem? (i := 67) rfl)) (fun H locs hw => ?_)
                refine lv_iconst (v := iI 1) hx hb (okX12_point (122, .iconst 1, 1) (List.mem_of_getElem? (i := 68) rfl)) rfl ?_
                exact sk_zret hx hb hr0 hlocks hK hw (Or.inr rfl) hM (okX12_point (123, .ireturn, 1) (List.mem_of_getElem? (i := 69) rfl))
              · have hM := hM.2 c94
                refine lv_iconst (v := iI 0) hx hb (okX12_point (97, .iconst 0, 1) (List.mem_of_getElem? (i := 52) rfl)) rfl ?_
                exact sk_zret hx hb hr0 hlocks hK hw (Or.inl rfl) hM (okX12_point (98, .ireturn, 1) (List.mem_of_getElem? (i := 53) rfl))
          · have hM := hM.2 c63
            refine lv_iconst (v := iI 0) hx hb (okX12_point (66, .iconst 0, 1) (List.mem_of_getElem? (i := 36) rfl)) rfl ?_
            exact sk_zret hx hb hr0 hlocks hK hw (Or.inl rfl) hM (okX12_point (67, .ireturn, 1) (List.mem_of_getElem? (i := 37) rfl))
      · have hM := hM.2 c34
        refine lv_iconst (v := iI 0) hx hb (okX12_point (37, .iconst 0, 1) (List.mem_of_getElem? (i := 20) rfl)) rfl ?_
        exact sk_zret hx hb hr0 hlocks hK hw (Or.inl rfl) hM (okX12_point (38, .ireturn, 1) (List.mem_of_getElem? (i := 21) rfl))
  · have hM := hM.2 c5
    refine lv_iconst (v := iI 0) hx hb (okX12_point (8, .iconst 0, 1) (List.mem_of_getElem? (i := 4) rfl)) rfl ?_
    exact sk_zret hx hb hr0 hlocks hK hw (Or.inl rfl) hM (okX12_point (9, .ireturn, 1) (List.mem_of_getElem? (i := 5) rfl))
def rmX12_points : Room := { frames := 4, cells := 0, slots := 0, locals := 214 }
set_option maxHeartbeats 4000000 in
set_option maxRecDepth 100000 in
theorem c_Mo_points (l : Launch) (G : sk_G) {Q : Int → sk_S → Prop} {I : sk_S} (hM : M_Mo_points Q I) : Met l yX12_points wsX12_points rmX12_points (va_Pc [.ref (sk_ad G 158)] (sk_U G 198 sk_t I)) (sk_Qi G 198 sk_t Q) 0 0 (sk_A G) := by
  refine Met.ofW (cc := cX12_points) (maxL := 2) (ret := (some .int)) (by decide) rfl ?_
  intro p e s m args below meth c s₁ B hml hv
  obtain ⟨rfl, hU, hK⟩ := hv
  have hx := B.exec
  have hb := B.bytes
  have hr0 := B.returns
  have hts := atoms_spec (ws := wsX12_points) B.pre
  have hown : s.vm.findClass RX12 = some m.cls := findClass_of_methodNamed B.named
  have hlocks := B.notSynchronized
  have S : CallFix p m c cX12_points 2 s ([.ref (sk_ad G 158)].toArray) wsX12_points RX12 := ⟨hx, hb, hml, hown, hts⟩
  have hL0 := hts (.fieldLink RX12 166 "SkyLightsModel" "at" "I") (by decide +kernel)
  have hL1 := hts (.fieldLink RX12 143 "SkyLightsModel" "figures" "I") (by decide +kernel)
  have hL2 := hts (.fieldLink RX12 161 "SkyLightsModel" "taped" "I") (by decide +kernel)
  have hI12 : ∀ w ∈ u_ws RX12 TX12 53, w ∈ wsX12_points := by decide +kernel
  have hw : sk_W G 198 sk_t I s s.heap [] := ⟨hU, va_S.rf⟩
  have hl := lv_entry ([.ref (sk_ad G 158)]) (n := 2) (Nat.le_of_ble_eq_true rfl)
  rw [lg_entry_eq]
  generalize (lg_sl ([.ref (sk_ad G 158)]) ++ List.replicate (2 - (lg_sl ([.ref (sk_ad G 158)])).length) Slot.unset).toArray = ls at hl ⊢
  have hl : lv_has ls 2 [(0, .ref (sk_ad G 158))] := hl
  suffices hgo : ∀ (H : Heap) (locs : List Loc), sk_W G 198 sk_t I s H locs → W p l e (headSpec wsX12_points rmX12_points).room s m ([.ref (sk_ad G 158)].toArray) below meth c H locs 0 0 (MQ below (sk_Qi G 198 sk_t Q) ([.ref (sk_ad G 158)].toArray) s 0 0 (sk_A G)) (F0 m 0 ls []) from hgo _ _ hw
  have hJ_7 : ∀ (v1 : Int) (I : sk_S), rI v1 → L_Mo_points_7 Q v1 I → ∀ (H : Heap) (locs : List Loc) (ls : Array Slot), sk_W G 198 sk_t I s H locs → lv_has ls 2 [(0, .ref (sk_ad G 158)), (1, .int (iI v1))] → W p l e (headSpec wsX12_points rmX12_points).room s m ([.ref (sk_ad G 158)].toArray) below meth c H locs 0 0 (MQ below (sk_Qi G 198 sk_t Q) ([.ref (sk_ad G 158)].toArray) s 0 0 (sk_A G)) (F0 m 7 ls []) := by
    intro v1 I hr_v1 hM H locs ls hw hl
    unfold L_Mo_points_7 at hM
    obtain ⟨X_7, hX_7⟩ : ∃ X : Int → sk_S → Prop, ∀ (v1 : Int) (I : sk_S), X v1 I ↔ (rI v1 → ∀ (H : Heap) (locs : List Loc) (ls : Array Slot), sk_W G 198 sk_t I s H locs → lv_has ls 2 [(0, .ref (sk_ad G 158)), (1, .int (iI v1))] → W p l e (headSpec wsX12_points rmX12_points).room s m ([.ref (sk_ad G 158)].toArray) below meth c H locs 0 0 (MQ below (sk_Qi G 198 sk_t Q) ([.ref (sk_ad G 158)].toArray) s 0 0 (sk_A G)) (F0 m 7 ls [])) := ⟨_, fun _ _ => Iff.rfl⟩
    refine (hX_7 v1 I).1 (hM X_7 (fun v1 I hM => (hX_7 v1 I).2 (fun hr_v1 H locs ls hw hl => ?_))) hr_v1 H locs ls hw hl
    refine lv_iload_n hx hb (okX12_points (7, .iload_n 1, 1) (List.mem_of_getElem? (i := 5) rfl)) rfl (lv_at hl 1 rfl) ?_
    refine lv_bipush (v := iI 10) hx hb (okX12_points (8, .bipush 10, 2) (List.mem_of_getElem? (i := 6) rfl)) (by decide +kernel) ?_
    refine sk_icmp_gt (tgt := 69) hx hb hr_v1 (by decide) (okX12_points (10, .if_icmp .gt 59, 3) (List.mem_of_getElem? (i := 7) rfl)) (by decide) (fun c10 => ?_) (fun c10 => ?_)
    · have hM := hM.1 c10
      refine lv_iconst (v := iI 0) hx hb (okX12_points (69, .iconst 0, 1) (List.mem_of_getElem? (i := 39) rfl)) rfl ?_
      exact sk_iret hx hb hr0 hlocks hK hw (by decide) hM (okX12_points (70, .ireturn, 1) (List.mem_of_getElem? (i := 40) rfl))
    · have hM := hM.2 c10
      refine lv_aload_n hx hb (okX12_points (13, .aload_n 0, 1) (List.mem_of_getElem? (i := 8) rfl)) rfl (lv_at hl 0 rfl) ?_
      refine lv_bipush (v := iI 10) hx hb (okX12_points (14, .bipush 10, 2) (List.mem_of_getElem? (i := 9) rfl)) (by decide +kernel) ?_
      refine lv_aload_n hx hb (okX12_points (16, .aload_n 0, 1) (List.mem_of_getElem? (i := 10) rfl)) rfl (lv_at hl 0 rfl) ?_
      have hr1 := hw.1.2.2 158 9
      refine sk_geti S hK hw kdn_158 (kd_in kdn_158) (C := RX12) (T := TX12) (N := 53) rfl hI12 9 ⟨by decide, rfl, by decide, rfl⟩ rfl (k' := 9) rfl hL1 (okX12_points (17, .getfield 143, 3) (List.mem_of_getElem? (i := 11) rfl)) ?_
      refine sk_imul hx hb (okX12_points (20, .imul, 1) (List.mem_of_getElem? (i := 12) rfl)) ?_
      refine lv_iload_n hx hb (okX12_points (21, .iload_n 1, 1) (List.mem_of_getElem? (i := 13) rfl)) rfl (lv_at hl 1 rfl) ?_
      refine sk_iadd hx hb (okX12_points (22, .iadd, 1) (List.mem_of_getElem? (i := 14) rfl)) ?_
      refine lv_iconst (v := iI 1) hx hb (okX12_points (23, .iconst 1, 1) (List.mem_of_getElem? (i := 15) rfl)) rfl ?_
      refine sk_isub hx hb (okX12_points (24, .isub, 1) (List.mem_of_getElem? (i := 16) rfl)) ?_
      obtain ⟨hr2, hM⟩ := hM
      refine sk_ci (sk_runV (a := 158) (C := RX12) (As := [.int (iI (((10 * (I 158 9)) + v1) - 1))]) (rest := []) S (c_Mo_point l G hr2 hM) sk_blind gX12_points_X12_point rfl hdX12_point ⟨⟨rfl, rfl⟩, Nat.le_of_ble_eq_true rfl, Nat.le_of_ble_eq_true rfl⟩ (sk_recv hK hw kdn_158 (kd_in kdn_158) (by decide) rfl) (sk_pre hK hw) rfl hl.1 rfl (Nat.le_of_ble_eq_true rfl) (okX12_points (25, .invokevirtual 186, 3) (List.mem_of_getElem? (i := 17) rfl)) ⟨Nat.zero_le _, Nat.zero_le _⟩) hw (fun r_25 I_25 H locs hr_r_25 hM hw => ?_)
      obtain ⟨hb_r_25, hM⟩ := hM
      refine sk_if_ne (tgt := 33) hx hb hr_r_25 (okX12_points (28, .ifCond .ne 5, 3) (List.mem_of_getElem? (i := 18) rfl)) (by decide) (fun c28 => ?_) (fun c28 => ?_)
      · have hM := hM.1 c28
        refine lv_aload_n hx hb (okX12_points (33, .aload_n 0, 1) (List.mem_of_getElem? (i := 21) rfl)) rfl (lv_at hl 0 rfl) ?_
        have hr3 := hw.1.2.2 158 16
        refine sk_geti S hK hw kdn_158 (kd_in kdn_158) (C := RX12) (T := TX12) (N := 53) rfl hI12 16 ⟨by decide, rfl, by decide, rfl⟩ rfl (k' := 16) rfl hL0 (okX12_points (34, .getfield 166, 3) (List.mem_of_getElem? (i := 22) rfl)) ?_
        refine lv_aload_n hx hb (okX12_points (37, .aload_n 0, 1) (List.mem_of_getElem? (i := 23) rfl)) rfl (lv_at hl 0 rfl) ?_
        have hr4 := hw.1.2.2 158 15
        refine sk_geti S hK hw kdn_158 (kd_in kdn_158) (C := RX12) (T := TX12) (N := 53) rfl hI12 15 ⟨by decide, rfl, by decide, rfl⟩ rfl (k' := 15) rfl hL2 (okX12_points (38, .getfield 161, 3) (List.mem_of_getElem? (i := 24) rfl)) ?_
        refine sk_icmp_ne (tgt := 46) hx hb hr3 hr4 (okX12_points (41, .if_icmp .ne 5, 3) (List.mem_of_getElem? (i := 25) rfl)) (by decide) (fun c41 => ?_) (fun c41 => ?_)
        · have hM := hM.1 c41
          refine lv_iload_n hx hb (okX12_points (46, .iload_n 1, 1) (List.mem_of_getElem? (i := 28) rfl)) rfl (lv_at hl 1 rfl) ?_
          refine lv_bipush (v := iI 10) hx hb (okX12_points (47, .bipush 10, 2) (List.mem_of_getElem? (i := 29) rfl)) (by decide +kernel) ?_
          refine sk_icmp_eq (tgt := 61) hx hb hr_v1 (by decide) (okX12_points (49, .if_icmp .eq 12, 3) (List.mem_of_getElem? (i := 30) rfl)) (by decide) (fun c49 => ?_) (fun c49 => ?_)
          · have hM := hM.1 c49
            refine lv_iconst (v := iI 0) hx hb (okX12_points (61, .iconst 0, 1) (List.mem_of_getElem? (i := 35) rfl)) rfl ?_
            exact sk_iret hx hb hr0 hlocks hK hw (by decide) hM (okX12_points (62, .ireturn, 1) (List.mem_of_getElem? (i := 36) rfl))
          · have hM := hM.2 c49
            refine lv_aload_n hx hb (okX12_points (52, .aload_n 0, 1) (List.mem_of_getElem? (i := 31) rfl)) rfl (lv_at hl 0 rfl) ?_
            refine lv_bipush (v := iI 59) hx hb (okX12_points (53, .bipush 59, 2) (List.mem_of_getElem? (i := 32) rfl)) (by decide +kernel) ?_
            refine sk_ci (sk_runV (a := 158) (C := RX12) (As := [.int (iI 59)]) (rest := []) S (c_Mo_takes l G (by decide) hM) sk_blind gX12_points_X12_takes rfl hdX12_takes ⟨⟨rfl, rfl⟩, Nat.le_of_ble_eq_true rfl, Nat.le_of_ble_eq_true rfl⟩ (sk_recv hK hw kdn_158 (kd_in kdn_158) (by decide) rfl) (sk_pre hK hw) rfl hl.1 rfl (Nat.le_of_ble_eq_true rfl) (okX12_points (55, .invokevirtual 173, 3) (List.mem_of_getElem? (i := 33) rfl)) ⟨Nat.zero_le _, Nat.zero_le _⟩) hw (fun r_55 I_55 H locs hr_r_55 hM hw => ?_)
            obtain ⟨hb_r_55, hM⟩ := hM
            refine sk_if_ne (tgt := 63) hx hb hr_r_55 (okX12_points (58, .ifCond .ne 5, 3) (List.mem_of_getElem? (i := 34) rfl)) (by decide) (fun c58 => ?_) (fun c58 => ?_)
            · have hM := hM.1 c58
              obtain ⟨hr5, hM⟩ := hM
              obtain ⟨v1_63, ev1_63⟩ : ∃ y : Int, y = v1 + 1 := ⟨_, rfl⟩
              have hM := hM v1_63 ev1_63
              have hr_v1_63 : rI v1_63 := by rw [ev1_63]; exact hr5
              refine lv_iinc (v := iI v1_63) (lv' := [(1, .int (iI v1_63)), (0, .ref (sk_ad G 158))]) hx hb (okX12_points (63, .iinc 1 1, 3) (List.mem_of_getElem? (i := 37) rfl)) hl (k := 1) rfl (by rw [ev1_63]; exact iI_add _ _) (by decide) rfl (fun ls hl => ?_)
              refine lv_goto (tgt := 7) hx hb (okX12_points (66, .goto (-59), 3) (List.mem_of_getElem? (i := 38) rfl)) (by decide) ?_
              exact (hX_7 v1_63 I_55).1 hM hr_v1_63 H locs ls hw (lv_sub hl [1, 0] rfl)
            · have hM := hM.2 c58
              refine lv_iconst (v := iI 0) hx hb (okX12_points (61, .iconst 0, 1) (List.mem_of_getElem? (i := 35) rfl)) rfl ?_
              exact sk_iret hx hb hr0 hlocks hK hw (by decide) hM (okX12_points (62, .ireturn, 1) (List.mem_of_getElem? (i := 36) rfl))
        · have hM := hM.2 c41
          refine lv_iload_n hx hb (okX12_points (44, .iload_n 1, 1) (List.mem_of_getElem? (i := 26) rfl)) rfl (lv_at hl 1 rfl) ?_
          exact sk_iret hx hb hr0 hlocks hK hw hr_v1 hM (okX12_points (45, .ireturn, 1) (List.mem_of_getElem? (i := 27) rfl))
      · have hM := hM.2 c28
        refine lv_iconst (v := iI 0) hx hb (okX12_points (31, .iconst 0, 1) (List.mem_of_getElem? (i := 19) rfl)) rfl ?_
        exact sk_iret hx hb hr0 hlocks hK hw (by decide) hM (okX12_points (32, .ireturn, 1) (List.mem_of_getElem? (i := 20) rfl))
  unfold M_Mo_points at hM
  intro H locs hw
  refine lv_aload_n hx hb (okX12_points (0, .aload_n 0, 1) (List.mem_of_getElem? (i := 0) rfl)) rfl (lv_at hl 0 rfl) ?_
  refine lv_iconst (v := iI 0) hx hb (okX12_points (1, .iconst 0, 1) (List.mem_of_getElem? (i := 1) rfl)) rfl ?_
  refine sk_put S hK hw kdn_158 (kd_in kdn_158) (C := RX12) (T := TX12) (N := 53) rfl hI12 tyX12 tyX12_ok nmX12 16 ⟨by decide, rfl, by decide, rfl⟩ rfl rfl (k' := 16) rfl (by decide) ⟨rfl, rfl⟩ hL0 (okX12_points (2, .putfield 166, 3) (List.mem_of_getElem? (i := 2) rfl)) (fun H locs hw => ?_)
  refine lv_iconst (v := iI 1) hx hb (okX12_points (5, .iconst 1, 1) (List.mem_of_getElem? (i := 3) rfl)) rfl ?_
  refine lv_istore_n (lv' := [(1, .int (iI 1)), (0, .ref (sk_ad G 158))]) hx hb (okX12_points (6, .istore_n 1, 1) (List.mem_of_getElem? (i := 4) rfl)) rfl hl (by decide) rfl (fun ls hl => ?_)
  exact hJ_7 1 (up I 158 16 0) (by decide) hM H locs ls hw (lv_sub hl [1, 0] rfl)
def rmX12_figure : Room := { frames := 5, cells := 0, slots := 0, locals := 267 }
set_option maxHeartbeats 4000000 in
set_option maxRecDepth 100000 in
theorem c_Mo_figure (l : Launch) (G : sk_G) {Q : Int → sk_S → Prop} {I : sk_S} (hM : M_Mo_figure Q I) : Met l yX12_figure wsX12_figure rmX12_figure (va_Pc [.ref (sk_ad G 158)] (sk_U G 198 sk_t I)) (sk_Qi G 198 sk_t Q) 0 0 (sk_A G) := by
  refine Met.ofW (cc := cX12_figure) (maxL := 2) (ret := (some .int)) (by decide) rfl ?_
  intro p e s m args below meth c s₁ B hml hv
  obtain ⟨rfl, hU, hK⟩ := hv
  have hx := B.exec
  have hb := B.bytes
  have hr0 := B.returns
  have hts := atoms_spec (ws := wsX12_figure) B.pre
  have hown : s.vm.findClass RX12 = some m.cls := findClass_of_methodNamed B.named
  have hlocks := B.notSynchronized
  have S : CallFix p m c cX12_figure 2 s ([.ref (sk_ad G 158)].toArray) wsX12_figure RX12 := ⟨hx, hb, hml, hown, hts⟩
  have hL0 := hts (.fieldLink RX12 143 "SkyLightsModel" "figures" "I") (by decide +kernel)
  have hL1 := hts (.fieldLink RX12 161 "SkyLightsModel" "taped" "I") (by decide +kernel)
  have hL2 := hts (.fieldLink RX12 19 "SkyLightsModel" "size" "[I") (by decide +kernel)
  have hL3 := hts (.fieldLink RX12 166 "SkyLightsModel" "at" "I") (by decide +kernel)
  have hI12 : ∀ w ∈ u_ws RX12 TX12 53, w ∈ wsX12_figure := by decide +kernel
  have hw : sk_W G 198 sk_t I s s.heap [] := ⟨hU, va_S.rf⟩
  have hl := lv_entry ([.ref (sk_ad G 158)]) (n := 2) (Nat.le_of_ble_eq_true rfl)
  rw [lg_entry_eq]
  generalize (lg_sl ([.ref (sk_ad G 158)]) ++ List.replicate (2 - (lg_sl ([.ref (sk_ad G 158)])).length) Slot.unset).toArray = ls at hl ⊢
  have hl : lv_has ls 2 [(0, .ref (sk_ad G 158))] := hl
  suffices hgo : ∀ (H : Heap) (locs : List Loc), sk_W G 198 sk_t I s H locs → W p l e (headSpec wsX12_figure rmX12_figure).room s m ([.ref (sk_ad G 158)].toArray) below meth c H locs 0 0 (MQ below (sk_Qi G 198 sk_t Q) ([.ref (sk_ad G 158)].toArray) s 0 0 (sk_A G)) (F0 m 0 ls []) from hgo _ _ hw
  unfold M_Mo_figure at hM
  intro H locs hw
  refine lv_aload_n hx hb (okX12_figure (0, .aload_n 0, 1) (List.mem_of_getElem? (i := 0) rfl)) rfl (lv_at hl 0 rfl) ?_
  have hr1 := hw.1.2.2 158 9
  refine sk_geti S hK hw kdn_158 (kd_in kdn_158) (C := RX12) (T := TX12) (N := 53) rfl hI12 9 ⟨by decide, rfl, by decide, rfl⟩ rfl (k' := 9) rfl hL0 (okX12_figure (1, .getfield 143, 3) (List.mem_of_getElem? (i := 1) rfl)) ?_
  refine lv_bipush (v := iI 8) hx hb (okX12_figure (4, .bipush 8, 2) (List.mem_of_getElem? (i := 2) rfl)) (by decide +kernel) ?_
  refine sk_icmp_ne (tgt := 12) hx hb hr1 (by decide) (okX12_figure (6, .if_icmp .ne 6, 3) (List.mem_of_getElem? (i := 3) rfl)) (by decide) (fun c6 => ?_) (fun c6 => ?_)
  · have hM := hM.1 c6
    refine lv_aload_n hx hb (okX12_figure (12, .aload_n 0, 1) (List.mem_of_getElem? (i := 6) rfl)) rfl (lv_at hl 0 rfl) ?_
    refine sk_ci (sk_runV (a := 158) (C := RX12) (As := []) (rest := []) S (c_Mo_points l G hM) sk_blind gX12_figure_X12_points rfl hdX12_points ⟨⟨rfl, rfl⟩, Nat.le_of_ble_eq_true rfl, Nat.le_of_ble_eq_true rfl⟩ (sk_recv hK hw kdn_158 (kd_in kdn_158) (by decide) rfl) (sk_pre hK hw) rfl hl.1 rfl (Nat.le_of_ble_eq_true rfl) (okX12_figure (13, .invokevirtual 189, 3) (List.mem_of_getElem? (i := 7) rfl)) ⟨Nat.zero_le _, Nat.zero_le _⟩) hw (fun r_13 I_13 H locs hr_r_13 hM hw => ?_)
    refine lv_istore_n (lv' := [(1, .int (iI r_13)), (0, .ref (sk_ad G 158))]) hx hb (okX12_figure (16, .istore_n 1, 1) (List.mem_of_getElem? (i := 8) rfl)) rfl hl (by decide) rfl (fun ls hl => ?_)
    refine lv_aload_n hx hb (okX12_figure (17, .aload_n 0, 1) (List.mem_of_getElem? (i := 9) rfl)) rfl (lv_at hl 1 rfl) ?_
    refine lv_iconst (v := iI 0) hx hb (okX12_figure (18, .iconst 0, 1) (List.mem_of_getElem? (i := 10) rfl)) rfl ?_
    refine sk_put S hK hw kdn_158 (kd_in kdn_158) (C := RX12) (T := TX12) (N := 53) rfl hI12 tyX12 tyX12_ok nmX12 15 ⟨by decide, rfl, by decide, rfl⟩ rfl rfl (k' := 15) rfl (by decide) ⟨rfl, rfl⟩ hL1 (okX12_figure (19, .putfield 161, 3) (List.mem_of_getElem? (i := 11) rfl)) (fun H locs hw => ?_)
    refine lv_iload_n hx hb (okX12_figure (22, .iload_n 1, 1) (List.mem_of_getElem? (i := 12) rfl)) rfl (lv_at hl 0 rfl) ?_
    refine sk_if_ne (tgt := 34) hx hb hr_r_13 (okX12_figure (23, .ifCond .ne 11, 3) (List.mem_of_getElem? (i := 13) rfl)) (by decide) (fun c23 => ?_) (fun c23 => ?_)
    · have hM := hM.1 c23
      refine lv_aload_n hx hb (okX12_figure (34, .aload_n 0, 1) (List.mem_of_getElem? (i := 19) rfl)) rfl (lv_at hl 1 rfl) ?_
      refine sk_getr (b := 162) S hK hw kdn_158 (kd_in kdn_158) (C := RX12) (T := TX12) (N := 53) rfl hI12 3 ⟨by decide, rfl, by decide, rfl⟩ rfl (k' := 3) rfl rfl (by decide +kernel) hL2 (okX12_figure (35, .getfield 19, 3) (List.mem_of_getElem? (i := 20) rfl)) ?_
      refine lv_aload_n hx hb (okX12_figure (38, .aload_n 0, 1) (List.mem_of_getElem? (i := 21) rfl)) rfl (lv_at hl 1 rfl) ?_
      have hr2 := hw.1.2.2 158 9
      refine sk_geti S hK hw kdn_158 (kd_in kdn_158) (C := RX12) (T := TX12) (N := 53) rfl hI12 9 ⟨by decide, rfl, by decide, rfl⟩ rfl (k' := 9) rfl hL0 (okX12_figure (39, .getfield 143, 3) (List.mem_of_getElem? (i := 22) rfl)) ?_
      refine lv_iload_n hx hb (okX12_figure (42, .iload_n 1, 1) (List.mem_of_getElem? (i := 23) rfl)) rfl (lv_at hl 0 rfl) ?_
      obtain ⟨hi3, hM⟩ := hM
      refine sk_ist S hK hw kdn_162 (kd_in kdn_162) (by rw [lnn_162]; exact hi3) hr_r_13 (okX12_figure (43, .iastore, 1) (List.mem_of_getElem? (i := 24) rfl)) (fun H locs hw => ?_)
      refine lv_aload_n hx hb (okX12_figure (44, .aload_n 0, 1) (List.mem_of_getElem? (i := 25) rfl)) rfl (lv_at hl 1 rfl) ?_
      refine lv_dup hx hb (okX12_figure (45, .dup, 1) (List.mem_of_getElem? (i := 26) rfl)) rfl ?_
      have hr4 := hw.1.2.2 158 9
      refine sk_geti S hK hw kdn_158 (kd_in kdn_158) (C := RX12) (T := TX12) (N := 53) rfl hI12 9 ⟨by decide, rfl, by decide, rfl⟩ rfl (k' := 9) rfl hL0 (okX12_figure (46, .getfield 143, 3) (List.mem_of_getElem? (i := 27) rfl)) ?_
      refine lv_iconst (v := iI 1) hx hb (okX12_figure (49, .iconst 1, 1) (List.mem_of_getElem? (i := 28) rfl)) rfl ?_
      refine sk_iadd hx hb (okX12_figure (50, .iadd, 1) (List.mem_of_getElem? (i := 29) rfl)) ?_
      obtain ⟨hr5, hM⟩ := hM
      refine sk_put S hK hw kdn_158 (kd_in kdn_158) (C := RX12) (T := TX12) (N := 53) rfl hI12 tyX12 tyX12_ok nmX12 9 ⟨by decide, rfl, by decide, rfl⟩ rfl rfl (k' := 9) rfl hr5 ⟨rfl, rfl⟩ hL0 (okX12_figure (51, .putfield 143, 3) (List.mem_of_getElem? (i := 30) rfl)) (fun H locs hw => ?_)
      refine lv_aload_n hx hb (okX12_figure (54, .aload_n 0, 1) (List.mem_of_getElem? (i := 31) rfl)) rfl (lv_at hl 1 rfl) ?_
      have hr6 := hw.1.2.2 158 9
      refine sk_geti S hK hw kdn_158 (kd_in kdn_158) (C := RX12) (T := TX12) (N := 53) rfl hI12 9 ⟨by decide, rfl, by decide, rfl⟩ rfl (k' := 9) rfl hL0 (okX12_figure (55, .getfield 143, 3) (List.mem_of_getElem? (i := 32) rfl)) ?_
      refine lv_iconst (v := iI 1) hx hb (okX12_figure (58, .iconst 1, 1) (List.mem_of_getElem? (i := 33) rfl)) rfl ?_
      refine sk_isub hx hb (okX12_figure (59, .isub, 1) (List.mem_of_getElem? (i := 34) rfl)) ?_
      obtain ⟨hr7, hM⟩ := hM
      exact sk_iret hx hb hr0 hlocks hK hw hr7 hM (okX12_figure (60, .ireturn, 1) (List.mem_of_getElem? (i := 35) rfl))
    · have hM := hM.2 c23
      refine lv_bipush (v := iI (-10)) hx hb (okX12_figure (26, .bipush (-10), 2) (List.mem_of_getElem? (i := 14) rfl)) (by decide +kernel) ?_
      refine lv_aload_n hx hb (okX12_figure (28, .aload_n 0, 1) (List.mem_of_getElem? (i := 15) rfl)) rfl (lv_at hl 1 rfl) ?_
      have hr8 := hw.1.2.2 158 16
      refine sk_geti S hK hw kdn_158 (kd_in kdn_158) (C := RX12) (T := TX12) (N := 53) rfl hI12 16 ⟨by decide, rfl, by decide, rfl⟩ rfl (k' := 16) rfl hL3 (okX12_figure (29, .getfield 166, 3) (List.mem_of_getElem? (i := 16) rfl)) ?_
      refine sk_isub hx hb (okX12_figure (32, .isub, 1) (List.mem_of_getElem? (i := 17) rfl)) ?_
      obtain ⟨hr9, hM⟩ := hM
      exact sk_iret hx hb hr0 hlocks hK hw hr9 hM (okX12_figure (33, .ireturn, 1) (List.mem_of_getElem? (i := 18) rfl))
  · have hM := hM.2 c6
    refine lv_bipush (v := iI (-4)) hx hb (okX12_figure (9, .bipush (-4), 2) (List.mem_of_getElem? (i := 4) rfl)) (by decide +kernel) ?_
    exact sk_iret hx hb hr0 hlocks hK hw (by decide) hM (okX12_figure (11, .ireturn, 1) (List.mem_of_getElem? (i := 5) rfl))
def rmX12_isInZone : Room := { frames := 1, cells := 0, slots := 0, locals := 79 }
set_option maxHeartbeats 4000000 in
set_option maxRecDepth 100000 in
theorem c_Mo_isInZone (l : Launch) (G : sk_G) {p1 : Int} (hr_p1 : rI p1) {Q : Int → sk_S → Prop} {I : sk_S} (hM : M_Mo_isInZone p1 Q I) : Met l yX12_isInZone wsX12_isInZone rmX12_isInZone (va_Pc [.ref (sk_ad G 158), .int (iI p1)] (sk_U G 198 sk_t I)) (sk_Qz G 198 sk_t Q) 0 0 (sk_A G) := by
  refine Met.ofW (cc := cX12_isInZone) (maxL := 7) (ret := (some .boolean)) (by decide) rfl ?_
  intro p e s m args below meth c s₁ B hml hv
  obtain ⟨rfl, hU, hK⟩ := hv
  have hx := B.exec
  have hb := B.bytes
  have hr0 := B.returns
  have hts := atoms_spec (ws := wsX12_isInZone) B.pre
  have hown : s.vm.findClass RX12 = some m.cls := findClass_of_methodNamed B.named
  have hlocks := B.notSynchronized
  have S : CallFix p m c cX12_isInZone 7 s ([.ref (sk_ad G 158), .int (iI p1)].toArray) wsX12_isInZone RX12 := ⟨hx, hb, hml, hown, hts⟩
  have hL0 := hts (.fieldLink RX12 128 "SkyLightsModel" "now" "[I") (by decide +kernel)
  have hL1 := hts (.fieldLink RX12 216 "SkyLightsModel" "radius" "I") (by decide +kernel)
  have hL2 := hts (.fieldLink RX12 119 "SkyLightsModel" "markX" "[I") (by decide +kernel)
  have hL3 := hts (.fieldLink RX12 210 "SkyLightsModel" "zoneX" "I") (by decide +kernel)
  have hL4 := hts (.fieldLink RX12 122 "SkyLightsModel" "markY" "[I") (by decide +kernel)
  have hL5 := hts (.fieldLink RX12 213 "SkyLightsModel" "zoneY" "I") (by decide +kernel)
  have hL6 := hts (.fieldLink RX12 131 "SkyLightsModel" "then" "[I") (by decide +kernel)
  have hI12 : ∀ w ∈ u_ws RX12 TX12 53, w ∈ wsX12_isInZone := by decide +kernel
  have hw : sk_W G 198 sk_t I s s.heap [] := ⟨hU, va_S.rf⟩
  have hl := lv_entry ([.ref (sk_ad G 158), .int (iI p1)]) (n := 7) (Nat.le_of_ble_eq_true rfl)
  rw [lg_entry_eq]
  generalize (lg_sl ([.ref (sk_ad G 158), .int (iI p1)]) ++ List.replicate (7 - (lg_sl ([.ref (sk_ad G 158), .int (iI p1)])).length) Slot.unset).toArray = ls at hl ⊢
  have hl : lv_has ls 7 [(0, .ref (sk_ad G 158)), (1, .int (iI p1))] := hl
  suffices hgo : ∀ (H : Heap) (locs : List Loc), sk_W G 198 sk_t I s H locs → W p l e (headSpec wsX12_isInZone rmX12_isInZone).room s m ([.ref (sk_ad G 158), .int (iI p1)].toArray) below meth c H locs 0 0 (MQ below (sk_Qz G 198 sk_t Q) ([.ref (sk_ad G 158), .int (iI p1)].toArray) s 0 0 (sk_A G)) (F0 m 0 ls []) from hgo _ _ hw
  have hJ_134 : ∀ (v2 v3 v5 s0 : Int) (I : sk_S), rI v2 → rI v3 → rI v5 → rI s0 → J_Mo_isInZone_134 v2 v3 v5 s0 Q I → ∀ (H : Heap) (locs : List Loc) (ls : Array Slot), sk_W G 198 sk_t I s H locs → lv_has ls 7 [(0, .ref (sk_ad G 158)), (2, .int (iI v2)), (3, .int (iI v3)), (5, .int (iI v5))] → W p l e (headSpec wsX12_isInZone rmX12_isInZone).room s m ([.ref (sk_ad G 158), .int (iI p1)].toArray) below meth c H locs 0 0 (MQ below (sk_Qz G 198 sk_t Q) ([.ref (sk_ad G 158), .int (iI p1)].toArray) s 0 0 (sk_A G)) (F0 m 134 ls [.int (iI s0)]) := by
    intro v2 v3 v5 s0 I hr_v2 hr_v3 hr_v5 hr_s0 hM H locs ls hw hl
    unfold J_Mo_isInZone_134 at hM
    refine lv_istore (lv' := [(6, .int (iI s0)), (0, .ref (sk_ad G 158)), (2, .int (iI v2)), (3, .int (iI v3)), (5, .int (iI v5))]) hx hb (okX12_isInZone (134, .istore 6, 2) (List.mem_of_getElem? (i := 80) rfl)) hl (by decide) rfl (fun ls hl => ?_)
    refine lv_iload_n hx hb (okX12_isInZone (136, .iload_n 2, 1) (List.mem_of_getElem? (i := 81) rfl)) rfl (lv_at hl 2 rfl) ?_
    refine sk_i2l hx hb hr_v2 (okX12_isInZone (137, .i2l, 1) (List.mem_of_getElem? (i := 82) rfl)) ?_
    refine lv_iload_n hx hb (okX12_isInZone (138, .iload_n 3, 1) (List.mem_of_getElem? (i := 83) rfl)) rfl (lv_at hl 3 rfl) ?_
    refine sk_i2l hx hb hr_v3 (okX12_isInZone (139, .i2l, 1) (List.mem_of_getElem? (i := 84) rfl)) ?_
    refine lv_lconst (v := lI 0) hx hb (okX12_isInZone (140, .lconst 0, 1) (List.mem_of_getElem? (i := 85) rfl)) (by decide +kernel) ?_
    refine lv_iload hx hb (okX12_isInZone (141, .iload 5, 2) (List.mem_of_getElem? (i := 86) rfl)) (lv_at hl 4 rfl) ?_
    refine sk_i2l hx hb hr_v5 (okX12_isInZone (143, .i2l, 1) (List.mem_of_getElem? (i := 87) rfl)) ?_
    refine lv_iload hx hb (okX12_isInZone (144, .iload 6, 2) (List.mem_of_getElem? (i := 88) rfl)) (lv_at hl 0 rfl) ?_
    refine sk_i2l hx hb hr_s0 (okX12_isInZone (146, .i2l, 1) (List.mem_of_getElem? (i := 89) rfl)) ?_
    refine lv_lconst (v := lI 0) hx hb (okX12_isInZone (147, .lconst 0, 1) (List.mem_of_getElem? (i := 90) rfl)) (by decide +kernel) ?_
    refine lv_lconst (v := lI 1) hx hb (okX12_isInZone (148, .lconst 1, 1) (List.mem_of_getElem? (i := 91) rfl)) (by decide +kernel) ?_
    refine lv_aload_n hx hb (okX12_isInZone (149, .aload_n 0, 1) (List.mem_of_getElem? (i := 92) rfl)) rfl (lv_at hl 1 rfl) ?_
    have hr36 := hw.1.2.2 158 13
    refine sk_geti S hK hw kdn_158 (kd_in kdn_158) (C := RX12) (T := TX12) (N := 53) rfl hI12 13 ⟨by decide, rfl, by decide, rfl⟩ rfl (k' := 13) rfl hL1 (okX12_isInZone (150, .getfield 216, 3) (List.mem_of_getElem? (i := 93) rfl)) ?_
    refine sk_i2l hx hb hr36 (okX12_isInZone (153, .i2l, 1) (List.mem_of_getElem? (i := 94) rfl)) ?_
    refine sk_ci (sk_runS (As := [.long (lI v2), .long (lI v3), .long (lI 0), .long (lI v5), .long (lI s0), .long (lI 0), .long (lI 1), .long (lI (I 158 13))]) (rest := []) S (c_Mo_isNear l G ⟨Int.le_trans (by decide) (hr_v2).1, Int.lt_trans (hr_v2).2 (by decide)⟩ ⟨Int.le_trans (by decide) (hr_v3).1, Int.lt_trans (hr_v3).2 (by decide)⟩ (by decide) ⟨Int.le_trans (by decide) (hr_v5).1, Int.lt_trans (hr_v5).2 (by decide)⟩ ⟨Int.le_trans (by decide) (hr_s0).1, Int.lt_trans (hr_s0).2 (by decide)⟩ (by decide) (by decide) ⟨Int.le_trans (by decide) (hr36).1, Int.lt_trans (hr36).2 (by decide)⟩ hM) sk_blind gX12_isInZone_X12_isNear rfl hdX12_isNear ⟨⟨rfl, rfl⟩, Nat.le_of_ble_eq_true rfl, Nat.le_of_ble_eq_true rfl⟩ (sk_pre hK hw) rfl hl.1 rfl (Nat.le_of_ble_eq_true rfl) (okX12_isInZone (154, .invokestatic 232, 3) (List.mem_of_getElem? (i := 95) rfl)) ⟨Nat.zero_le _, Nat.zero_le _⟩) hw (fun r_154 I_154 H locs hr_r_154 hM hw => ?_)
    obtain ⟨hb_r_154, hM⟩ := hM
    exact sk_zret hx hb hr0 hlocks hK hw hb_r_154 hM (okX12_isInZone (157, .ireturn, 1) (List.mem_of_getElem? (i := 96) rfl))
  have hJ_100 : ∀ (v1 v2 v3 v4 s0 : Int) (I : sk_S), rI v1 → rI v2 → rI v3 → rI v4 → rI s0 → J_Mo_isInZone_100 v1 v2 v3 v4 s0 Q I → ∀ (H : Heap) (locs : List Loc) (ls : Array Slot), sk_W G 198 sk_t I s H locs → lv_has ls 7 [(0, .ref (sk_ad G 158)), (1, .int (iI v1)), (2, .int (iI v2)), (3, .int (iI v3)), (4, .int (iI v4))] → W p l e (headSpec wsX12_isInZone rmX12_isInZone).room s m ([.ref (sk_ad G 158), .int (iI p1)].toArray) below meth c H locs 0 0 (MQ below (sk_Qz G 198 sk_t Q) ([.ref (sk_ad G 158), .int (iI p1)].toArray) s 0 0 (sk_A G)) (F0 m 100 ls [.int (iI s0)]) := by
    intro v1 v2 v3 v4 s0 I hr_v1 hr_v2 hr_v3 hr_v4 hr_s0 hM H locs ls hw hl
    unfold J_Mo_isInZone_100 at hM
    refine lv_istore (lv' := [(5, .int (iI s0)), (0, .ref (sk_ad G 158)), (1, .int (iI v1)), (2, .int (iI v2)), (3, .int (iI v3)), (4, .int (iI v4))]) hx hb (okX12_isInZone (100, .istore 5, 2) (List.mem_of_getElem? (i := 60) rfl)) hl (by decide) rfl (fun ls hl => ?_)
    refine lv_iload hx hb (okX12_isInZone (102, .iload 4, 2) (List.mem_of_getElem? (i := 61) rfl)) (lv_at hl 5 rfl) ?_
    refine sk_if_eq (tgt := 133) hx hb hr_v4 (okX12_isInZone (104, .ifCond .eq 29, 3) (List.mem_of_getElem? (i := 62) rfl)) (by decide) (fun c104 => ?_) (fun c104 => ?_)
    · have hM := hM.1 c104
      refine lv_iconst (v := iI 0) hx hb (okX12_isInZone (133, .iconst 0, 1) (List.mem_of_getElem? (i := 79) rfl)) rfl ?_
      exact hJ_134 v2 v3 s0 0 I hr_v2 hr_v3 hr_s0 (by decide) hM H locs ls hw (lv_sub hl [1, 3, 4, 0] rfl)
    · have hM := hM.2 c104
      refine lv_aload_n hx hb (okX12_isInZone (107, .aload_n 0, 1) (List.mem_of_getElem? (i := 63) rfl)) rfl (lv_at hl 1 rfl) ?_
      refine sk_getr (b := 194) S hK hw kdn_158 (kd_in kdn_158) (C := RX12) (T := TX12) (N := 53) rfl hI12 46 ⟨by decide, rfl, by decide, rfl⟩ rfl (k' := 46) rfl rfl (by decide +kernel) hL4 (okX12_isInZone (108, .getfield 122, 3) (List.mem_of_getElem? (i := 64) rfl)) ?_
      refine lv_aload_n hx hb (okX12_isInZone (111, .aload_n 0, 1) (List.mem_of_getElem? (i := 65) rfl)) rfl (lv_at hl 1 rfl) ?_
      refine sk_getr (b := 197) S hK hw kdn_158 (kd_in kdn_158) (C := RX12) (T := TX12) (N := 53) rfl hI12 52 ⟨by decide, rfl, by decide, rfl⟩ rfl (k' := 52) rfl rfl (by decide +kernel) hL6 (okX12_isInZone (112, .getfield 131, 3) (List.mem_of_getElem? (i := 66) rfl)) ?_
      refine lv_iload_n hx hb (okX12_isInZone (115, .iload_n 1, 1) (List.mem_of_getElem? (i := 67) rfl)) rfl (lv_at hl 2 rfl) ?_
      obtain ⟨hi27, hM⟩ := hM
      have hr28 := hw.1.2.2 197 v1
      refine sk_ild S hK hw kdn_197 (kd_in kdn_197) (by rw [lnn_197]; exact hi27) (okX12_isInZone (116, .iaload, 1) (List.mem_of_getElem? (i := 68) rfl)) ?_
      obtain ⟨hi29, hM⟩ := hM
      have hr30 := hw.1.2.2 194 (I 197 v1)
      refine sk_ild S hK hw kdn_194 (kd_in kdn_194) (by rw [lnn_194]; exact hi29) (okX12_isInZone (117, .iaload, 1) (List.mem_of_getElem? (i := 69) rfl)) ?_
      refine lv_aload_n hx hb (okX12_isInZone (118, .aload_n 0, 1) (List.mem_of_getElem? (i := 70) rfl)) rfl (lv_at hl 1 rfl) ?_
      refine sk_getr (b := 194) S hK hw kdn_158 (kd_in kdn_158) (C := RX12) (T := TX12) (N := 53) rfl hI12 46 ⟨by decide, rfl, by decide, rfl⟩ rfl (k' := 46) rfl rfl (by decide +kernel) hL4 (okX12_isInZone (119, .getfield 122, 3) (List.mem_of_getElem? (i := 71) rfl)) ?_
      refine lv_aload_n hx hb (okX12_isInZone (122, .aload_n 0, 1) (List.mem_of_getElem? (i := 72) rfl)) rfl (lv_at hl 1 rfl) ?_
      refine sk_getr (b := 196) S hK hw kdn_158 (kd_in kdn_158) (C := RX12) (T := TX12) (N := 53) rfl hI12 51 ⟨by decide, rfl, by decide, rfl⟩ rfl (k' := 51) rfl rfl (by decide +kernel) hL0 (okX12_isInZone (123, .getfield 128, 3) (List.mem_of_getElem? (i := 73) rfl)) ?_
      refine lv_iload_n hx hb (okX12_isInZone (126, .iload_n 1, 1) (List.mem_of_getElem? (i := 74) rfl)) rfl (lv_at hl 2 rfl) ?_
      obtain ⟨hi31, hM⟩ := hM
      have hr32 := hw.1.2.2 196 v1
      refine sk_ild S hK hw kdn_196 (kd_in kdn_196) (by rw [lnn_196]; exact hi31) (okX12_isInZone (127, .iaload, 1) (List.mem_of_getElem? (i := 75) rfl)) ?_
      obtain ⟨hi33, hM⟩ := hM
      have hr34 := hw.1.2.2 194 (I 196 v1)
      refine sk_ild S hK hw kdn_194 (kd_in kdn_194) (by rw [lnn_194]; exact hi33) (okX12_isInZone (128, .iaload, 1) (List.mem_of_getElem? (i := 76) rfl)) ?_
      refine sk_isub hx hb (okX12_isInZone (129, .isub, 1) (List.mem_of_getElem? (i := 77) rfl)) ?_
      refine lv_goto (tgt := 134) hx hb (okX12_isInZone (130, .goto 4, 3) (List.mem_of_getElem? (i := 78) rfl)) (by decide) ?_
      obtain ⟨hr35, hM⟩ := hM
      exact hJ_134 v2 v3 s0 ((I 194 (I 197 v1)) - (I 194 (I 196 v1))) I hr_v2 hr_v3 hr_s0 hr35 hM H locs ls hw (lv_sub hl [1, 3, 4, 0] rfl)
  have hJ_66 : ∀ (v1 v2 v3 s0 : Int) (I : sk_S), rI v1 → rI v2 → rI v3 → rI s0 → J_Mo_isInZone_66 v1 v2 v3 s0 Q I → ∀ (H : Heap) (locs : List Loc) (ls : Array Slot), sk_W G 198 sk_t I s H locs → lv_has ls 7 [(0, .ref (sk_ad G 158)), (1, .int (iI v1)), (2, .int (iI v2)), (3, .int (iI v3))] → W p l e (headSpec wsX12_isInZone rmX12_isInZone).room s m ([.ref (sk_ad G 158), .int (iI p1)].toArray) below meth c H locs 0 0 (MQ below (sk_Qz G 198 sk_t Q) ([.ref (sk_ad G 158), .int (iI p1)].toArray) s 0 0 (sk_A G)) (F0 m 66 ls [.int (iI s0)]) := by
    intro v1 v2 v3 s0 I hr_v1 hr_v2 hr_v3 hr_s0 hM H locs ls hw hl
    unfold J_Mo_isInZone_66 at hM
    refine lv_istore (lv' := [(4, .int (iI s0)), (0, .ref (sk_ad G 158)), (1, .int (iI v1)), (2, .int (iI v2)), (3, .int (iI v3))]) hx hb (okX12_isInZone (66, .istore 4, 2) (List.mem_of_getElem? (i := 40) rfl)) hl (by decide) rfl (fun ls hl => ?_)
    refine lv_iload hx hb (okX12_isInZone (68, .iload 4, 2) (List.mem_of_getElem? (i := 41) rfl)) (lv_at hl 0 rfl) ?_
    refine sk_if_eq (tgt := 99) hx hb hr_s0 (okX12_isInZone (70, .ifCond .eq 29, 3) (List.mem_of_getElem? (i := 42) rfl)) (by decide) (fun c70 => ?_) (fun c70 => ?_)
    · have hM := hM.1 c70
      refine lv_iconst (v := iI 0) hx hb (okX12_isInZone (99, .iconst 0, 1) (List.mem_of_getElem? (i := 59) rfl)) rfl ?_
      exact hJ_100 v1 v2 v3 s0 0 I hr_v1 hr_v2 hr_v3 hr_s0 (by decide) hM H locs ls hw (lv_sub hl [1, 2, 3, 4, 0] rfl)
    · have hM := hM.2 c70
      refine lv_aload_n hx hb (okX12_isInZone (73, .aload_n 0, 1) (List.mem_of_getElem? (i := 43) rfl)) rfl (lv_at hl 1 rfl) ?_
      refine sk_getr (b := 193) S hK hw kdn_158 (kd_in kdn_158) (C := RX12) (T := TX12) (N := 53) rfl hI12 45 ⟨by decide, rfl, by decide, rfl⟩ rfl (k' := 45) rfl rfl (by decide +kernel) hL2 (okX12_isInZone (74, .getfield 119, 3) (List.mem_of_getElem? (i := 44) rfl)) ?_
      refine lv_aload_n hx hb (okX12_isInZone (77, .aload_n 0, 1) (List.mem_of_getElem? (i := 45) rfl)) rfl (lv_at hl 1 rfl) ?_
      refine sk_getr (b := 197) S hK hw kdn_158 (kd_in kdn_158) (C := RX12) (T := TX12) (N := 53) rfl hI12 52 ⟨by decide, rfl, by decide, rfl⟩ rfl (k' := 52) rfl rfl (by decide +kernel) hL6 (okX12_isInZone (78, .getfield 131, 3) (List.mem_of_getElem? (i := 46) rfl)) ?_
      refine lv_iload_n hx hb (okX12_isInZone (81, .iload_n 1, 1) (List.mem_of_getElem? (i := 47) rfl)) rfl (lv_at hl 2 rfl) ?_
      obtain ⟨hi18, hM⟩ := hM
      have hr19 := hw.1.2.2 197 v1
      refine sk_ild S hK hw kdn_197 (kd_in kdn_197) (by rw [lnn_197]; exact hi18) (okX12_isInZone (82, .iaload, 1) (List.mem_of_getElem? (i := 48) rfl)) ?_
      obtain ⟨hi20, hM⟩ := hM
      have hr21 := hw.1.2.2 193 (I 197 v1)
      refine sk_ild S hK hw kdn_193 (kd_in kdn_193) (by rw [lnn_193]; exact hi20) (okX12_isInZone (83, .iaload, 1) (List.mem_of_getElem? (i := 49) rfl)) ?_
      refine lv_aload_n hx hb (okX12_isInZone (84, .aload_n 0, 1) (List.mem_of_getElem? (i := 50) rfl)) rfl (lv_at hl 1 rfl) ?_
      refine sk_getr (b := 193) S hK hw kdn_158 (kd_in kdn_158) (C := RX12) (T := TX12) (N := 53) rfl hI12 45 ⟨by decide, rfl, by decide, rfl⟩ rfl (k' := 45) rfl rfl (by decide +kernel) hL2 (okX12_isInZone (85, .getfield 119, 3) (List.mem_of_getElem? (i := 51) rfl)) ?_
      refine lv_aload_n hx hb (okX12_isInZone (88, .aload_n 0, 1) (List.mem_of_getElem? (i := 52) rfl)) rfl (lv_at hl 1 rfl) ?_
      refine sk_getr (b := 196) S hK hw kdn_158 (kd_in kdn_158) (C := RX12) (T := TX12) (N := 53) rfl hI12 51 ⟨by decide, rfl, by decide, rfl⟩ rfl (k' := 51) rfl rfl (by decide +kernel) hL0 (okX12_isInZone (89, .getfield 128, 3) (List.mem_of_getElem? (i := 53) rfl)) ?_
      refine lv_iload_n hx hb (okX12_isInZone (92, .iload_n 1, 1) (List.mem_of_getElem? (i := 54) rfl)) rfl (lv_at hl 2 rfl) ?_
      obtain ⟨hi22, hM⟩ := hM
      have hr23 := hw.1.2.2 196 v1
      refine sk_ild S hK hw kdn_196 (kd_in kdn_196) (by rw [lnn_196]; exact hi22) (okX12_isInZone (93, .iaload, 1) (List.mem_of_getElem? (i := 55) rfl)) ?_
      obtain ⟨hi24, hM⟩ := hM
      have hr25 := hw.1.2.2 193 (I 196 v1)
      refine sk_ild S hK hw kdn_193 (kd_in kdn_193) (by rw [lnn_193]; exact hi24) (okX12_isInZone (94, .iaload, 1) (List.mem_of_getElem? (i := 56) rfl)) ?_
      refine sk_isub hx hb (okX12_isInZone (95, .isub, 1) (List.mem_of_getElem? (i := 57) rfl)) ?_
      refine lv_goto (tgt := 100) hx hb (okX12_isInZone (96, .goto 4, 3) (List.mem_of_getElem? (i := 58) rfl)) (by decide) ?_
      obtain ⟨hr26, hM⟩ := hM
      exact hJ_100 v1 v2 v3 s0 ((I 193 (I 197 v1)) - (I 193 (I 196 v1))) I hr_v1 hr_v2 hr_v3 hr_s0 hr26 hM H locs ls hw (lv_sub hl [1, 2, 3, 4, 0] rfl)
  unfold M_Mo_isInZone at hM
  intro H locs hw
  refine lv_aload_n hx hb (okX12_isInZone (0, .aload_n 0, 1) (List.mem_of_getElem? (i := 0) rfl)) rfl (lv_at hl 0 rfl) ?_
  refine sk_getr (b := 196) S hK hw kdn_158 (kd_in kdn_158) (C := RX12) (T := TX12) (N := 53) rfl hI12 51 ⟨by decide, rfl, by decide, rfl⟩ rfl (k' := 51) rfl rfl (by decide +kernel) hL0 (okX12_isInZone (1, .getfield 128, 3) (List.mem_of_getElem? (i := 1) rfl)) ?_
  refine lv_iload_n hx hb (okX12_isInZone (4, .iload_n 1, 1) (List.mem_of_getElem? (i := 2) rfl)) rfl (lv_at hl 1 rfl) ?_
  obtain ⟨hi1, hM⟩ := hM
  have hr2 := hw.1.2.2 196 p1
  refine sk_ild S hK hw kdn_196 (kd_in kdn_196) (by rw [lnn_196]; exact hi1) (okX12_isInZone (5, .iaload, 1) (List.mem_of_getElem? (i := 3) rfl)) ?_
  refine sk_if_lt (tgt := 16) hx hb hr2 (okX12_isInZone (6, .ifCond .lt 10, 3) (List.mem_of_getElem? (i := 4) rfl)) (by decide) (fun c6 => ?_) (fun c6 => ?_)
  · have hM := hM.1 c6
    refine lv_iconst (v := iI 0) hx hb (okX12_isInZone (16, .iconst 0, 1) (List.mem_of_getElem? (i := 8) rfl)) rfl ?_
    exact sk_zret hx hb hr0 hlocks hK hw (Or.inl rfl) hM (okX12_isInZone (17, .ireturn, 1) (List.mem_of_getElem? (i := 9) rfl))
  · have hM := hM.2 c6
    refine lv_aload_n hx hb (okX12_isInZone (9, .aload_n 0, 1) (List.mem_of_getElem? (i := 5) rfl)) rfl (lv_at hl 0 rfl) ?_
    have hr3 := hw.1.2.2 158 13
    refine sk_geti S hK hw kdn_158 (kd_in kdn_158) (C := RX12) (T := TX12) (N := 53) rfl hI12 13 ⟨by decide, rfl, by decide, rfl⟩ rfl (k' := 13) rfl hL1 (okX12_isInZone (10, .getfield 216, 3) (List.mem_of_getElem? (i := 6) rfl)) ?_
    refine sk_if_ne (tgt := 18) hx hb hr3 (okX12_isInZone (13, .ifCond .ne 5, 3) (List.mem_of_getElem? (i := 7) rfl)) (by decide) (fun c13 => ?_) (fun c13 => ?_)
    · have hM := hM.1 c13
      refine lv_aload_n hx hb (okX12_isInZone (18, .aload_n 0, 1) (List.mem_of_getElem? (i := 10) rfl)) rfl (lv_at hl 0 rfl) ?_
      refine sk_getr (b := 193) S hK hw kdn_158 (kd_in kdn_158) (C := RX12) (T := TX12) (N := 53) rfl hI12 45 ⟨by decide, rfl, by decide, rfl⟩ rfl (k' := 45) rfl rfl (by decide +kernel) hL2 (okX12_isInZone (19, .getfield 119, 3) (List.mem_of_getElem? (i := 11) rfl)) ?_
      refine lv_aload_n hx hb (okX12_isInZone (22, .aload_n 0, 1) (List.mem_of_getElem? (i := 12) rfl)) rfl (lv_at hl 0 rfl) ?_
      refine sk_getr (b := 196) S hK hw kdn_158 (kd_in kdn_158) (C := RX12) (T := TX12) (N := 53) rfl hI12 51 ⟨by decide, rfl, by decide, rfl⟩ rfl (k' := 51) rfl rfl (by decide +kernel) hL0 (okX12_isInZone (23, .getfield 128, 3) (List.mem_of_getElem? (i := 13) rfl)) ?_
      refine lv_iload_n hx hb (okX12_isInZone (26, .iload_n 1, 1) (List.mem_of_getElem? (i := 14) rfl)) rfl (lv_at hl 1 rfl) ?_
      obtain ⟨hi4, hM⟩ := hM
      have hr5 := hw.1.2.2 196 p1
      refine sk_ild S hK hw kdn_196 (kd_in kdn_196) (by rw [lnn_196]; exact hi4) (okX12_isInZone (27, .iaload, 1) (List.mem_of_getElem? (i := 15) rfl)) ?_
      obtain ⟨hi6, hM⟩ := hM
      have hr7 := hw.1.2.2 193 (I 196 p1)
      refine sk_ild S hK hw kdn_193 (kd_in kdn_193) (by rw [lnn_193]; exact hi6) (okX12_isInZone (28, .iaload, 1) (List.mem_of_getElem? (i := 16) rfl)) ?_
      refine lv_aload_n hx hb (okX12_isInZone (29, .aload_n 0, 1) (List.mem_of_getElem? (i := 17) rfl)) rfl (lv_at hl 0 rfl) ?_
      have hr8 := hw.1.2.2 158 11
      refine sk_geti S hK hw kdn_158 (kd_in kdn_158) (C := RX12) (T := TX12) (N := 53) rfl hI12 11 ⟨by decide, rfl, by decide, rfl⟩ rfl (k' := 11) rfl hL3 (okX12_isInZone (30, .getfield 210, 3) (List.mem_of_getElem? (i := 18) rfl)) ?_
      refine sk_isub hx hb (okX12_isInZone (33, .isub, 1) (List.mem_of_getElem? (i := 19) rfl)) ?_
      obtain ⟨hr9, hM⟩ := hM
      refine sk_nm (fun v2_34 ev2_34 => ?_)
      have hM := hM v2_34 ev2_34
      have hr_v2_34 : rI v2_34 := by rw [ev2_34]; exact hr9
      refine lv_istore_n (lv' := [(2, .int (iI v2_34)), (0, .ref (sk_ad G 158)), (1, .int (iI p1))]) hx hb (okX12_isInZone (34, .istore_n 2, 1) (List.mem_of_getElem? (i := 20) rfl)) rfl hl (by decide) rfl (fun ls hl => ?_)
      refine lv_aload_n hx hb (okX12_isInZone (35, .aload_n 0, 1) (List.mem_of_getElem? (i := 21) rfl)) rfl (lv_at hl 1 rfl) ?_
      refine sk_getr (b := 194) S hK hw kdn_158 (kd_in kdn_158) (C := RX12) (T := TX12) (N := 53) rfl hI12 46 ⟨by decide, rfl, by decide, rfl⟩ rfl (k' := 46) rfl rfl (by decide +kernel) hL4 (okX12_isInZone (36, .getfield 122, 3) (List.mem_of_getElem? (i := 22) rfl)) ?_
      refine lv_aload_n hx hb (okX12_isInZone (39, .aload_n 0, 1) (List.mem_of_getElem? (i := 23) rfl)) rfl (lv_at hl 1 rfl) ?_
      refine sk_getr (b := 196) S hK hw kdn_158 (kd_in kdn_158) (C := RX12) (T := TX12) (N := 53) rfl hI12 51 ⟨by decide, rfl, by decide, rfl⟩ rfl (k' := 51) rfl rfl (by decide +kernel) hL0 (okX12_isInZone (40, .getfield 128, 3) (List.mem_of_getElem? (i := 24) rfl)) ?_
      refine lv_iload_n hx hb (okX12_isInZone (43, .iload_n 1, 1) (List.mem_of_getElem? (i := 25) rfl)) rfl (lv_at hl 2 rfl) ?_
      obtain ⟨hi10, hM⟩ := hM
      have hr11 := hw.1.2.2 196 p1
      refine sk_ild S hK hw kdn_196 (kd_in kdn_196) (by rw [lnn_196]; exact hi10) (okX12_isInZone (44, .iaload, 1) (List.mem_of_getElem? (i := 26) rfl)) ?_
      obtain ⟨hi12, hM⟩ := hM
      have hr13 := hw.1.2.2 194 (I 196 p1)
      refine sk_ild S hK hw kdn_194 (kd_in kdn_194) (by rw [lnn_194]; exact hi12) (okX12_isInZone (45, .iaload, 1) (List.mem_of_getElem? (i := 27) rfl)) ?_
      refine lv_aload_n hx hb (okX12_isInZone (46, .aload_n 0, 1) (List.mem_of_getElem? (i := 28) rfl)) rfl (lv_at hl 1 rfl) ?_
      have hr14 := hw.1.2.2 158 12
      refine sk_geti S hK hw kdn_158 (kd_in kdn_158) (C := RX12) (T := TX12) (N := 53) rfl hI12 12 ⟨by decide, rfl, by decide, rfl⟩ rfl (k' := 12) rfl hL5 (okX12_isInZone (47, .getfield 213, 3) (List.mem_of_getElem? (i := 29) rfl)) ?_
      refine sk_isub hx hb (okX12_isInZone (50, .isub, 1) (List.mem_of_getElem? (i := 30) rfl)) ?_
      obtain ⟨hr15, hM⟩ := hM
      refine sk_nm (fun v3_51 ev3_51 => ?_)
      have hM := hM v3_51 ev3_51
      have hr_v3_51 : rI v3_51 := by rw [ev3_51]; exact hr15
      refine lv_istore_n (lv' := [(3, .int (iI v3_51)), (2, .int (iI v2_34)), (0, .ref (sk_ad G 158)), (1, .int (iI p1))]) hx hb (okX12_isInZone (51, .istore_n 3, 1) (List.mem_of_getElem? (i := 31) rfl)) rfl hl (by decide) rfl (fun ls hl => ?_)
      refine lv_aload_n hx hb (okX12_isInZone (52, .aload_n 0, 1) (List.mem_of_getElem? (i := 32) rfl)) rfl (lv_at hl 2 rfl) ?_
      refine sk_getr (b := 197) S hK hw kdn_158 (kd_in kdn_158) (C := RX12) (T := TX12) (N := 53) rfl hI12 52 ⟨by decide, rfl, by decide, rfl⟩ rfl (k' := 52) rfl rfl (by decide +kernel) hL6 (okX12_isInZone (53, .getfield 131, 3) (List.mem_of_getElem? (i := 33) rfl)) ?_
      refine lv_iload_n hx hb (okX12_isInZone (56, .iload_n 1, 1) (List.mem_of_getElem? (i := 34) rfl)) rfl (lv_at hl 3 rfl) ?_
      obtain ⟨hi16, hM⟩ := hM
      have hr17 := hw.1.2.2 197 p1
      refine sk_ild S hK hw kdn_197 (kd_in kdn_197) (by rw [lnn_197]; exact hi16) (okX12_isInZone (57, .iaload, 1) (List.mem_of_getElem? (i := 35) rfl)) ?_
      refine sk_if_lt (tgt := 65) hx hb hr17 (okX12_isInZone (58, .ifCond .lt 7, 3) (List.mem_of_getElem? (i := 36) rfl)) (by decide) (fun c58 => ?_) (fun c58 => ?_)
      · have hM := hM.1 c58
        refine lv_iconst (v := iI 0) hx hb (okX12_isInZone (65, .iconst 0, 1) (List.mem_of_getElem? (i := 39) rfl)) rfl ?_
        exact hJ_66 p1 v2_34 v3_51 0 I hr_p1 hr_v2_34 hr_v3_51 (by decide) hM H locs ls hw (lv_sub hl [2, 3, 1, 0] rfl)
      · have hM := hM.2 c58
        refine lv_iconst (v := iI 1) hx hb (okX12_isInZone (61, .iconst 1, 1) (List.mem_of_getElem? (i := 37) rfl)) rfl ?_
        refine lv_goto (tgt := 66) hx hb (okX12_isInZone (62, .goto 4, 3) (List.mem_of_getElem? (i := 38) rfl)) (by decide) ?_
        exact hJ_66 p1 v2_34 v3_51 1 I hr_p1 hr_v2_34 hr_v3_51 (by decide) hM H locs ls hw (lv_sub hl [2, 3, 1, 0] rfl)
    · have hM := hM.2 c13
      refine lv_iconst (v := iI 0) hx hb (okX12_isInZone (16, .iconst 0, 1) (List.mem_of_getElem? (i := 8) rfl)) rfl ?_
      exact sk_zret hx hb hr0 hlocks hK hw (Or.inl rfl) hM (okX12_isInZone (17, .ireturn, 1) (List.mem_of_getElem? (i := 9) rfl))
def rmX12_markOf : Room := { frames := 0, cells := 0, slots := 0, locals := 0 }
set_option maxHeartbeats 4000000 in
set_option maxRecDepth 100000 in
theorem c_Mo_markOf (l : Launch) (G : sk_G) {p1 p2 : Int} (hr_p1 : rI p1) (hr_p2 : rI p2) {Q : Int → sk_S → Prop} {I : sk_S} (hM : M_Mo_markOf p1 p2 Q I) : Met l yX12_markOf wsX12_markOf rmX12_markOf (va_Pc [.ref (sk_ad G 158), .int (iI p1), .int (iI p2)] (sk_U G 198 sk_t I)) (sk_Qi G 198 sk_t Q) 0 0 (sk_A G) := by
  refine Met.ofW (cc := cX12_markOf) (maxL := 4) (ret := (some .int)) (by decide) rfl ?_
  intro p e s m args below meth c s₁ B hml hv
  obtain ⟨rfl, hU, hK⟩ := hv
  have hx := B.exec
  have hb := B.bytes
  have hr0 := B.returns
  have hts := atoms_spec (ws := wsX12_markOf) B.pre
  have hown : s.vm.findClass RX12 = some m.cls := findClass_of_methodNamed B.named
  have hlocks := B.notSynchronized
  have S : CallFix p m c cX12_markOf 4 s ([.ref (sk_ad G 158), .int (iI p1), .int (iI p2)].toArray) wsX12_markOf RX12 := ⟨hx, hb, hml, hown, hts⟩
  have hL0 := hts (.fieldLink RX12 305 "SkyLightsModel" "marks" "I") (by decide +kernel)
  have hL1 := hts (.fieldLink RX12 113 "SkyLightsModel" "markFlyer" "[I") (by decide +kernel)
  have hL2 := hts (.fieldLink RX12 116 "SkyLightsModel" "markTick" "[I") (by decide +kernel)
  have hI12 : ∀ w ∈ u_ws RX12 TX12 53, w ∈ wsX12_markOf := by decide +kernel
  have hw : sk_W G 198 sk_t I s s.heap [] := ⟨hU, va_S.rf⟩
  have hl := lv_entry ([.ref (sk_ad G 158), .int (iI p1), .int (iI p2)]) (n := 4) (Nat.le_of_ble_eq_true rfl)
  rw [lg_entry_eq]
  generalize (lg_sl ([.ref (sk_ad G 158), .int (iI p1), .int (iI p2)]) ++ List.replicate (4 - (lg_sl ([.ref (sk_ad G 158), .int (iI p1), .int (iI p2)])).length) Slot.unset).toArray = ls at hl ⊢
  have hl : lv_has ls 4 [(0, .ref (sk_ad G 158)), (1, .int (iI p1)), (2, .int (iI p2))] := hl
  suffices hgo : ∀ (H : Heap) (locs : List Loc), sk_W G 198 sk_t I s H locs → W p l e (headSpec wsX12_markOf rmX12_markOf).room s m ([.ref (sk_ad G 158), .int (iI p1), .int (iI p2)].toArray) below meth c H locs 0 0 (MQ below (sk_Qi G 198 sk_t Q) ([.ref (sk_ad G 158), .int (iI p1), .int (iI p2)].toArray) s 0 0 (sk_A G)) (F0 m 0 ls []) from hgo _ _ hw
  have hJ_2 : ∀ (v1 v2 v3 : Int) (I : sk_S), rI v1 → rI v2 → rI v3 → L_Mo_markOf_2 v1 v2 Q v3 I → ∀ (H : Heap) (locs : List Loc) (ls : Array Slot), sk_W G 198 sk_t I s H locs → lv_has ls 4 [(0, .ref (sk_ad G 158)), (1, .int (iI v1)), (2, .int (iI v2)), (3, .int (iI v3))] → W p l e (headSpec wsX12_markOf rmX12_markOf).room s m ([.ref (sk_ad G 158), .int (iI p1), .int (iI p2)].toArray) below meth c H locs 0 0 (MQ below (sk_Qi G 198 sk_t Q) ([.ref (sk_ad G 158), .int (iI p1), .int (iI p2)].toArray) s 0 0 (sk_A G)) (F0 m 2 ls []) := by
    intro v1 v2 v3 I hr_v1 hr_v2 hr_v3 hM H locs ls hw hl
    unfold L_Mo_markOf_2 at hM
    obtain ⟨X_2, hX_2⟩ : ∃ X : Int → sk_S → Prop, ∀ (v3 : Int) (I : sk_S), X v3 I ↔ (rI v3 → ∀ (H : Heap) (locs : List Loc) (ls : Array Slot), sk_W G 198 sk_t I s H locs → lv_has ls 4 [(0, .ref (sk_ad G 158)), (1, .int (iI v1)), (2, .int (iI v2)), (3, .int (iI v3))] → W p l e (headSpec wsX12_markOf rmX12_markOf).room s m ([.ref (sk_ad G 158), .int (iI p1), .int (iI p2)].toArray) below meth c H locs 0 0 (MQ below (sk_Qi G 198 sk_t Q) ([.ref (sk_ad G 158), .int (iI p1), .int (iI p2)].toArray) s 0 0 (sk_A G)) (F0 m 2 ls [])) := ⟨_, fun _ _ => Iff.rfl⟩
    have hJ_32 : ∀ (v3 : Int) (I : sk_S), rI v3 → J_Mo_markOf_32 v1 v2 v3 Q X_2 I → ∀ (H : Heap) (locs : List Loc) (ls : Array Slot), sk_W G 198 sk_t I s H locs → lv_has ls 4 [(0, .ref (sk_ad G 158)), (1, .int (iI v1)), (2, .int (iI v2)), (3, .int (iI v3))] → W p l e (headSpec wsX12_markOf rmX12_markOf).room s m ([.ref (sk_ad G 158), .int (iI p1), .int (iI p2)].toArray) below meth c H locs 0 0 (MQ below (sk_Qi G 198 sk_t Q) ([.ref (sk_ad G 158), .int (iI p1), .int (iI p2)].toArray) s 0 0 (sk_A G)) (F0 m 32 ls []) := by
      intro v3 I hr_v3 hM H locs ls hw hl
      unfold J_Mo_markOf_32 at hM
      obtain ⟨hr6, hM⟩ := hM
      obtain ⟨v3_32, ev3_32⟩ : ∃ y : Int, y = v3 + 1 := ⟨_, rfl⟩
      have hM := hM v3_32 ev3_32
      have hr_v3_32 : rI v3_32 := by rw [ev3_32]; exact hr6
      refine lv_iinc (v := iI v3_32) (lv' := [(3, .int (iI v3_32)), (0, .ref (sk_ad G 158)), (1, .int (iI v1)), (2, .int (iI v2))]) hx hb (okX12_markOf (32, .iinc 3 1, 3) (List.mem_of_getElem? (i := 20) rfl)) hl (k := 3) rfl (by rw [ev3_32]; exact iI_add _ _) (by decide) rfl (fun ls hl => ?_)
      refine lv_goto (tgt := 2) hx hb (okX12_markOf (35, .goto (-33), 3) (List.mem_of_getElem? (i := 21) rfl)) (by decide) ?_
      exact (hX_2 v3_32 I).1 hM hr_v3_32 H locs ls hw (lv_sub hl [1, 2, 3, 0] rfl)
    refine (hX_2 v3 I).1 (hM X_2 (fun v3 I hM => (hX_2 v3 I).2 (fun hr_v3 H locs ls hw hl => ?_))) hr_v3 H locs ls hw hl
    refine lv_iload_n hx hb (okX12_markOf (2, .iload_n 3, 1) (List.mem_of_getElem? (i := 2) rfl)) rfl (lv_at hl 3 rfl) ?_
    refine lv_aload_n hx hb (okX12_markOf (3, .aload_n 0, 1) (List.mem_of_getElem? (i := 3) rfl)) rfl (lv_at hl 0 rfl) ?_
    have hr1 := hw.1.2.2 158 48
    refine sk_geti S hK hw kdn_158 (kd_in kdn_158) (C := RX12) (T := TX12) (N := 53) rfl hI12 48 ⟨by decide, rfl, by decide, rfl⟩ rfl (k' := 48) rfl hL0 (okX12_markOf (4, .getfield 305, 3) (List.mem_of_getElem? (i := 4) rfl)) ?_
    refine sk_icmp_ge (tgt := 38) hx hb hr_v3 hr1 (okX12_markOf (7, .if_icmp .ge 31, 3) (List.mem_of_getElem? (i := 5) rfl)) (by decide) (fun c7 => ?_) (fun c7 => ?_)
    · have hM := hM.1 c7
      refine lv_iconst (v := iI (-1)) hx hb (okX12_markOf (38, .iconst (-1), 1) (List.mem_of_getElem? (i := 22) rfl)) rfl ?_
      exact sk_iret hx hb hr0 hlocks hK hw (by decide) hM (okX12_markOf (39, .ireturn, 1) (List.mem_of_getElem? (i := 23) rfl))
    · have hM := hM.2 c7
      refine lv_aload_n hx hb (okX12_markOf (10, .aload_n 0, 1) (List.mem_of_getElem? (i := 6) rfl)) rfl (lv_at hl 0 rfl) ?_
      refine sk_getr (b := 191) S hK hw kdn_158 (kd_in kdn_158) (C := RX12) (T := TX12) (N := 53) rfl hI12 43 ⟨by decide, rfl, by decide, rfl⟩ rfl (k' := 43) rfl rfl (by decide +kernel) hL1 (okX12_markOf (11, .getfield 113, 3) (List.mem_of_getElem? (i := 7) rfl)) ?_
      refine lv_iload_n hx hb (okX12_markOf (14, .iload_n 3, 1) (List.mem_of_getElem? (i := 8) rfl)) rfl (lv_at hl 3 rfl) ?_
      obtain ⟨hi2, hM⟩ := hM
      have hr3 := hw.1.2.2 191 v3
      refine sk_ild S hK hw kdn_191 (kd_in kdn_191) (by rw [lnn_191]; exact hi2) (okX12_markOf (15, .iaload, 1) (List.mem_of_getElem? (i := 9) rfl)) ?_
      refine lv_iload_n hx hb (okX12_markOf (16, .iload_n 1, 1) (List.mem_of_getElem? (i := 10) rfl)) rfl (lv_at hl 1 rfl) ?_
      refine sk_icmp_ne (tgt := 32) hx hb hr3 hr_v1 (okX12_markOf (17, .if_icmp .ne 15, 3) (List.mem_of_getElem? (i := 11) rfl)) (by decide) (fun c17 => ?_) (fun c17 => ?_)
      · have hM := hM.1 c17
        exact hJ_32 v3 I hr_v3 hM H locs ls hw (lv_sub hl [0, 1, 2, 3] rfl)
      · have hM := hM.2 c17
        refine lv_aload_n hx hb (okX12_markOf (20, .aload_n 0, 1) (List.mem_of_getElem? (i := 12) rfl)) rfl (lv_at hl 0 rfl) ?_
        refine sk_getr (b := 192) S hK hw kdn_158 (kd_in kdn_158) (C := RX12) (T := TX12) (N := 53) rfl hI12 44 ⟨by decide, rfl, by decide, rfl⟩ rfl (k' := 44) rfl rfl (by decide +kernel) hL2 (okX12_markOf (21, .getfield 116, 3) (List.mem_of_getElem? (i := 13) rfl)) ?_
        refine lv_iload_n hx hb (okX12_markOf (24, .iload_n 3, 1) (List.mem_of_getElem? (i := 14) rfl)) rfl (lv_at hl 3 rfl) ?_
        obtain ⟨hi4, hM⟩ := hM
        have hr5 := hw.1.2.2 192 v3
        refine sk_ild S hK hw kdn_192 (kd_in kdn_192) (by rw [lnn_192]; exact hi4) (okX12_markOf (25, .iaload, 1) (List.mem_of_getElem? (i := 15) rfl)) ?_
        refine lv_iload_n hx hb (okX12_markOf (26, .iload_n 2, 1) (List.mem_of_getElem? (i := 16) rfl)) rfl (lv_at hl 2 rfl) ?_
        refine sk_icmp_ne (tgt := 32) hx hb hr5 hr_v2 (okX12_markOf (27, .if_icmp .ne 5, 3) (List.mem_of_getElem? (i := 17) rfl)) (by decide) (fun c27 => ?_) (fun c27 => ?_)
        · have hM := hM.1 c27
          exact hJ_32 v3 I hr_v3 hM H locs ls hw (lv_sub hl [0, 1, 2, 3] rfl)
        · have hM := hM.2 c27
          refine lv_iload_n hx hb (okX12_markOf (30, .iload_n 3, 1) (List.mem_of_getElem? (i := 18) rfl)) rfl (lv_at hl 3 rfl) ?_
          exact sk_iret hx hb hr0 hlocks hK hw hr_v3 hM (okX12_markOf (31, .ireturn, 1) (List.mem_of_getElem? (i := 19) rfl))
  unfold M_Mo_markOf at hM
  intro H locs hw
  refine lv_iconst (v := iI 0) hx hb (okX12_markOf (0, .iconst 0, 1) (List.mem_of_getElem? (i := 0) rfl)) rfl ?_
  refine lv_istore_n (lv' := [(3, .int (iI 0)), (0, .ref (sk_ad G 158)), (1, .int (iI p1)), (2, .int (iI p2))]) hx hb (okX12_markOf (1, .istore_n 3, 1) (List.mem_of_getElem? (i := 1) rfl)) rfl hl (by decide) rfl (fun ls hl => ?_)
  exact hJ_2 p1 p2 0 I hr_p1 hr_p2 (by decide) hM H locs ls hw (lv_sub hl [1, 2, 3, 0] rfl)
def rmX12_findClash : Room := { frames := 2, cells := 0, slots := 0, locals := 139 }
set_option maxHeartbeats 4000000 in
set_option maxRecDepth 100000 in
theorem c_Mo_findClash (l : Launch) (G : sk_G) {p1 : Int} (hr_p1 : rI p1) {Q : Int → sk_S → Prop} {I : sk_S} (hM : M_Mo_findClash p1 Q I) : Met l yX12_findClash wsX12_findClash rmX12_findClash (va_Pc [.ref (sk_ad G 158), .int (iI p1)] (sk_U G 198 sk_t I)) (sk_Qz G 198 sk_t Q) 0 0 (sk_A G) := by
  refine Met.ofW (cc := cX12_findClash) (maxL := 4) (ret := (some .boolean)) (by decide) rfl ?_
  intro p e s m args below meth c s₁ B hml hv
  obtain ⟨rfl, hU, hK⟩ := hv
  have hx := B.exec
  have hb := B.bytes
  have hr0 := B.returns
  have hts := atoms_spec (ws := wsX12_findClash) B.pre
  have hown : s.vm.findClass RX12 = some m.cls := findClass_of_methodNamed B.named
  have hlocks := B.notSynchronized
  have S : CallFix p m c cX12_findClash 4 s ([.ref (sk_ad G 158), .int (iI p1)].toArray) wsX12_findClash RX12 := ⟨hx, hb, hml, hown, hts⟩
  have hL0 := hts (.fieldLink RX12 128 "SkyLightsModel" "now" "[I") (by decide +kernel)
  have hL1 := hts (.fieldLink RX12 131 "SkyLightsModel" "then" "[I") (by decide +kernel)
  have hL2 := hts (.fieldLink RX12 134 "SkyLightsModel" "whoFirst" "I") (by decide +kernel)
  have hL3 := hts (.fieldLink RX12 137 "SkyLightsModel" "whoSecond" "I") (by decide +kernel)
  have hI12 : ∀ w ∈ u_ws RX12 TX12 53, w ∈ wsX12_findClash := by decide +kernel
  have hw : sk_W G 198 sk_t I s s.heap [] := ⟨hU, va_S.rf⟩
  have hl := lv_entry ([.ref (sk_ad G 158), .int (iI p1)]) (n := 4) (Nat.le_of_ble_eq_true rfl)
  rw [lg_entry_eq]
  generalize (lg_sl ([.ref (sk_ad G 158), .int (iI p1)]) ++ List.replicate (4 - (lg_sl ([.ref (sk_ad G 158), .int (iI p1)])).length) Slot.unset).toArray = ls at hl ⊢
  have hl : lv_has ls 4 [(0, .ref (sk_ad G 158)), (1, .int (iI p1))] := hl
  suffices hgo : ∀ (H : Heap) (locs : List Loc), sk_W G 198 sk_t I s H locs → W p l e (headSpec wsX12_findClash rmX12_findClash).room s m ([.ref (sk_ad G 158), .int (iI p1)].toArray) below meth c H locs 0 0 (MQ below (sk_Qz G 198 sk_t Q) ([.ref (sk_ad G 158), .int (iI p1)].toArray) s 0 0 (sk_A G)) (F0 m 0 ls []) from hgo _ _ hw
  have hJ_56 : ∀ (v2 : Int) (I : sk_S), rI v2 → J_Mo_findClash_56 v2 Q I → ∀ (H : Heap) (locs : List Loc) (ls : Array Slot), sk_W G 198 sk_t I s H locs → lv_has ls 4 [(0, .ref (sk_ad G 158)), (2, .int (iI v2))] → W p l e (headSpec wsX12_findClash rmX12_findClash).room s m ([.ref (sk_ad G 158), .int (iI p1)].toArray) below meth c H locs 0 0 (MQ below (sk_Qz G 198 sk_t Q) ([.ref (sk_ad G 158), .int (iI p1)].toArray) s 0 0 (sk_A G)) (F0 m 56 ls []) := by
    intro v2 I hr_v2 hM H locs ls hw hl
    unfold J_Mo_findClash_56 at hM
    refine lv_aload_n hx hb (okX12_findClash (56, .aload_n 0, 1) (List.mem_of_getElem? (i := 34) rfl)) rfl (lv_at hl 0 rfl) ?_
    refine lv_iload_n hx hb (okX12_findClash (57, .iload_n 2, 1) (List.mem_of_getElem? (i := 35) rfl)) rfl (lv_at hl 1 rfl) ?_
    refine sk_put S hK hw kdn_158 (kd_in kdn_158) (C := RX12) (T := TX12) (N := 53) rfl hI12 tyX12 tyX12_ok nmX12 49 ⟨by decide, rfl, by decide, rfl⟩ rfl rfl (k' := 49) rfl hr_v2 ⟨rfl, rfl⟩ hL2 (okX12_findClash (58, .putfield 134, 3) (List.mem_of_getElem? (i := 36) rfl)) (fun H locs hw => ?_)
    refine lv_aload_n hx hb (okX12_findClash (61, .aload_n 0, 1) (List.mem_of_getElem? (i := 37) rfl)) rfl (lv_at hl 0 rfl) ?_
    refine lv_iconst (v := iI (-1)) hx hb (okX12_findClash (62, .iconst (-1), 1) (List.mem_of_getElem? (i := 38) rfl)) rfl ?_
    refine sk_put S hK hw kdn_158 (kd_in kdn_158) (C := RX12) (T := TX12) (N := 53) rfl hI12 tyX12 tyX12_ok nmX12 50 ⟨by decide, rfl, by decide, rfl⟩ rfl rfl (k' := 50) rfl (by decide) ⟨rfl, rfl⟩ hL3 (okX12_findClash (63, .putfield 137, 3) (List.mem_of_getElem? (i := 39) rfl)) (fun H locs hw => ?_)
    refine lv_iconst (v := iI 1) hx hb (okX12_findClash (66, .iconst 1, 1) (List.mem_of_getElem? (i := 40) rfl)) rfl ?_
    exact sk_zret hx hb hr0 hlocks hK hw (Or.inr rfl) hM (okX12_findClash (67, .ireturn, 1) (List.mem_of_getElem? (i := 41) rfl))
  have hJ_90 : ∀ (v2 v3 : Int) (I : sk_S), rI v2 → rI v3 → J_Mo_findClash_90 v2 v3 Q I → ∀ (H : Heap) (locs : List Loc) (ls : Array Slot), sk_W G 198 sk_t I s H locs → lv_has ls 4 [(0, .ref (sk_ad G 158)), (2, .int (iI v2)), (3, .int (iI v3))] → W p l e (headSpec wsX12_findClash rmX12_findClash).room s m ([.ref (sk_ad G 158), .int (iI p1)].toArray) below meth c H locs 0 0 (MQ below (sk_Qz G 198 sk_t Q) ([.ref (sk_ad G 158), .int (iI p1)].toArray) s 0 0 (sk_A G)) (F0 m 90 ls []) := by
    intro v2 v3 I hr_v2 hr_v3 hM H locs ls hw hl
    unfold J_Mo_findClash_90 at hM
    refine lv_aload_n hx hb (okX12_findClash (90, .aload_n 0, 1) (List.mem_of_getElem? (i := 55) rfl)) rfl (lv_at hl 0 rfl) ?_
    refine lv_iload_n hx hb (okX12_findClash (91, .iload_n 2, 1) (List.mem_of_getElem? (i := 56) rfl)) rfl (lv_at hl 1 rfl) ?_
    refine sk_put S hK hw kdn_158 (kd_in kdn_158) (C := RX12) (T := TX12) (N := 53) rfl hI12 tyX12 tyX12_ok nmX12 49 ⟨by decide, rfl, by decide, rfl⟩ rfl rfl (k' := 49) rfl hr_v2 ⟨rfl, rfl⟩ hL2 (okX12_findClash (92, .putfield 134, 3) (List.mem_of_getElem? (i := 57) rfl)) (fun H locs hw => ?_)
    refine lv_aload_n hx hb (okX12_findClash (95, .aload_n 0, 1) (List.mem_of_getElem? (i := 58) rfl)) rfl (lv_at hl 0 rfl) ?_
    refine lv_iload_n hx hb (okX12_findClash (96, .iload_n 3, 1) (List.mem_of_getElem? (i := 59) rfl)) rfl (lv_at hl 2 rfl) ?_
    refine sk_put S hK hw kdn_158 (kd_in kdn_158) (C := RX12) (T := TX12) (N := 53) rfl hI12 tyX12 tyX12_ok nmX12 50 ⟨by decide, rfl, by decide, rfl⟩ rfl rfl (k' := 50) rfl hr_v3 ⟨rfl, rfl⟩ hL3 (okX12_findClash (97, .putfield 137, 3) (List.mem_of_getElem? (i := 60) rfl)) (fun H locs hw => ?_)
    refine lv_iconst (v := iI 1) hx hb (okX12_findClash (100, .iconst 1, 1) (List.mem_of_getElem? (i := 61) rfl)) rfl ?_
    exact sk_zret hx hb hr0 hlocks hK hw (Or.inr rfl) hM (okX12_findClash (101, .ireturn, 1) (List.mem_of_getElem? (i := 62) rfl))
  have hJ_42 : ∀ (v2 : Int) (I : sk_S), rI v2 → L_Mo_findClash_42 Q v2 I → ∀ (H : Heap) (locs : List Loc) (ls : Array Slot), sk_W G 198 sk_t I s H locs → lv_has ls 4 [(0, .ref (sk_ad G 158)), (2, .int (iI v2))] → W p l e (headSpec wsX12_findClash rmX12_findClash).room s m ([.ref (sk_ad G 158), .int (iI p1)].toArray) below meth c H locs 0 0 (MQ below (sk_Qz G 198 sk_t Q) ([.ref (sk_ad G 158), .int (iI p1)].toArray) s 0 0 (sk_A G)) (F0 m 42 ls []) := by
    intro v2 I hr_v2 hM H locs ls hw hl
    unfold L_Mo_findClash_42 at hM
    obtain ⟨X_42, hX_42⟩ : ∃ X : Int → sk_S → Prop, ∀ (v2 : Int) (I : sk_S), X v2 I ↔ (rI v2 → ∀ (H : Heap) (locs : List Loc) (ls : Array Slot), sk_W G 198 sk_t I s H locs → lv_has ls 4 [(0, .ref (sk_ad G 158)), (2, .int (iI v2))] → W p l e (headSpec wsX12_findClash rmX12_findClash).room s m ([.ref (sk_ad G 158), .int (iI p1)].toArray) below meth c H locs 0 0 (MQ below (sk_Qz G 198 sk_t Q) ([.ref (sk_ad G 158), .int (iI p1)].toArray) s 0 0 (sk_A G)) (F0 m 42 ls [])) := ⟨_, fun _ _ => Iff.rfl⟩
    have hJ_108 : ∀ (v2 : Int) (I : sk_S), rI v2 → J_Mo_findClash_108 v2 Q X_42 I → ∀ (H : Heap) (locs : List Loc) (ls : Array Slot), sk_W G 198 sk_t I s H locs → lv_has ls 4 [(0, .ref (sk_ad G 158)), (2, .int (iI v2))] → W p l e (headSpec wsX12_findClash rmX12_findClash).room s m ([.ref (sk_ad G 158), .int (iI p1)].toArray) below meth c H locs 0 0 (MQ below (sk_Qz G 198 sk_t Q) ([.ref (sk_ad G 158), .int (iI p1)].toArray) s 0 0 (sk_A G)) (F0 m 108 ls []) := by
      intro v2 I hr_v2 hM H locs ls hw hl
      unfold J_Mo_findClash_108 at hM
      obtain ⟨hr7, hM⟩ := hM
      obtain ⟨v2_108, ev2_108⟩ : ∃ y : Int, y = v2 + 1 := ⟨_, rfl⟩
      have hM := hM v2_108 ev2_108
      have hr_v2_108 : rI v2_108 := by rw [ev2_108]; exact hr7
      refine lv_iinc (v := iI v2_108) (lv' := [(2, .int (iI v2_108)), (0, .ref (sk_ad G 158))]) hx hb (okX12_findClash (108, .iinc 2 1, 3) (List.mem_of_getElem? (i := 65) rfl)) hl (k := 1) rfl (by rw [ev2_108]; exact iI_add _ _) (by decide) rfl (fun ls hl => ?_)
      refine lv_goto (tgt := 42) hx hb (okX12_findClash (111, .goto (-69), 3) (List.mem_of_getElem? (i := 66) rfl)) (by decide) ?_
      exact (hX_42 v2_108 I).1 hM hr_v2_108 H locs ls hw (lv_sub hl [1, 0] rfl)
    have hJ_72 : ∀ (v2 v3 : Int) (I : sk_S), rI v2 → rI v3 → L_Mo_findClash_72 v2 Q X_42 v3 I → ∀ (H : Heap) (locs : List Loc) (ls : Array Slot), sk_W G 198 sk_t I s H locs → lv_has ls 4 [(0, .ref (sk_ad G 158)), (2, .int (iI v2)), (3, .int (iI v3))] → W p l e (headSpec wsX12_findClash rmX12_findClash).room s m ([.ref (sk_ad G 158), .int (iI p1)].toArray) below meth c H locs 0 0 (MQ below (sk_Qz G 198 sk_t Q) ([.ref (sk_ad G 158), .int (iI p1)].toArray) s 0 0 (sk_A G)) (F0 m 72 ls []) := by
      intro v2 v3 I hr_v2 hr_v3 hM H locs ls hw hl
      unfold L_Mo_findClash_72 at hM
      obtain ⟨X_72, hX_72⟩ : ∃ X : Int → sk_S → Prop, ∀ (v3 : Int) (I : sk_S), X v3 I ↔ (rI v3 → ∀ (H : Heap) (locs : List Loc) (ls : Array Slot), sk_W G 198 sk_t I s H locs → lv_has ls 4 [(0, .ref (sk_ad G 158)), (2, .int (iI v2)), (3, .int (iI v3))] → W p l e (headSpec wsX12_findClash rmX12_findClash).room s m ([.ref (sk_ad G 158), .int (iI p1)].toArray) below meth c H locs 0 0 (MQ below (sk_Qz G 198 sk_t Q) ([.ref (sk_ad G 158), .int (iI p1)].toArray) s 0 0 (sk_A G)) (F0 m 72 ls [])) := ⟨_, fun _ _ => Iff.rfl⟩
      refine (hX_72 v3 I).1 (hM X_72 (fun v3 I hM => (hX_72 v3 I).2 (fun hr_v3 H locs ls hw hl => ?_))) hr_v3 H locs ls hw hl
      refine lv_iload_n hx hb (okX12_findClash (72, .iload_n 3, 1) (List.mem_of_getElem? (i := 46) rfl)) rfl (lv_at hl 2 rfl) ?_
      refine lv_bipush (v := iI 10) hx hb (okX12_findClash (73, .bipush 10, 2) (List.mem_of_getElem? (i := 47) rfl)) (by decide +kernel) ?_
      refine sk_icmp_ge (tgt := 108) hx hb hr_v3 (by decide) (okX12_findClash (75, .if_icmp .ge 33, 3) (List.mem_of_getElem? (i := 48) rfl)) (by decide) (fun c75 => ?_) (fun c75 => ?_)
      · have hM := hM.1 c75
        exact hJ_108 v2 I hr_v2 hM H locs ls hw (lv_sub hl [0, 1] rfl)
      · have hM := hM.2 c75
        refine lv_aload_n hx hb (okX12_findClash (78, .aload_n 0, 1) (List.mem_of_getElem? (i := 49) rfl)) rfl (lv_at hl 0 rfl) ?_
        refine lv_iload_n hx hb (okX12_findClash (79, .iload_n 2, 1) (List.mem_of_getElem? (i := 50) rfl)) rfl (lv_at hl 1 rfl) ?_
        refine lv_iload_n hx hb (okX12_findClash (80, .iload_n 3, 1) (List.mem_of_getElem? (i := 51) rfl)) rfl (lv_at hl 2 rfl) ?_
        refine sk_ci (sk_runV (a := 158) (C := RX12) (As := [.int (iI v2), .int (iI v3)]) (rest := []) S (c_Mo_areNear l G hr_v2 hr_v3 hM) sk_blind gX12_findClash_X12_areNear rfl hdX12_areNear ⟨⟨rfl, rfl⟩, Nat.le_of_ble_eq_true rfl, Nat.le_of_ble_eq_true rfl⟩ (sk_recv hK hw kdn_158 (kd_in kdn_158) (by decide) rfl) (sk_pre hK hw) rfl hl.1 rfl (Nat.le_of_ble_eq_true rfl) (okX12_findClash (81, .invokevirtual 314, 3) (List.mem_of_getElem? (i := 52) rfl)) ⟨Nat.zero_le _, Nat.zero_le _⟩) hw (fun r_81 I_81 H locs hr_r_81 hM hw => ?_)
        obtain ⟨hb_r_81, hM⟩ := hM
        refine sk_if_ne (tgt := 90) hx hb hr_r_81 (okX12_findClash (84, .ifCond .ne 6, 3) (List.mem_of_getElem? (i := 53) rfl)) (by decide) (fun c84 => ?_) (fun c84 => ?_)
        · have hM := hM.1 c84
          exact hJ_90 v2 v3 I_81 hr_v2 hr_v3 hM H locs ls hw (lv_sub hl [0, 1, 2] rfl)
        · have hM := hM.2 c84
          refine lv_goto (tgt := 102) hx hb (okX12_findClash (87, .goto 15, 3) (List.mem_of_getElem? (i := 54) rfl)) (by decide) ?_
          obtain ⟨hr6, hM⟩ := hM
          obtain ⟨v3_102, ev3_102⟩ : ∃ y : Int, y = v3 + 1 := ⟨_, rfl⟩
          have hM := hM v3_102 ev3_102
          have hr_v3_102 : rI v3_102 := by rw [ev3_102]; exact hr6
          refine lv_iinc (v := iI v3_102) (lv' := [(3, .int (iI v3_102)), (0, .ref (sk_ad G 158)), (2, .int (iI v2))]) hx hb (okX12_findClash (102, .iinc 3 1, 3) (List.mem_of_getElem? (i := 63) rfl)) hl (k := 2) rfl (by rw [ev3_102]; exact iI_add _ _) (by decide) rfl (fun ls hl => ?_)
          refine lv_goto (tgt := 72) hx hb (okX12_findClash (105, .goto (-33), 3) (List.mem_of_getElem? (i := 64) rfl)) (by decide) ?_
          exact (hX_72 v3_102 I_81).1 hM hr_v3_102 H locs ls hw (lv_sub hl [1, 2, 0] rfl)
    refine (hX_42 v2 I).1 (hM X_42 (fun v2 I hM => (hX_42 v2 I).2 (fun hr_v2 H locs ls hw hl => ?_))) hr_v2 H locs ls hw hl
    refine lv_iload_n hx hb (okX12_findClash (42, .iload_n 2, 1) (List.mem_of_getElem? (i := 27) rfl)) rfl (lv_at hl 1 rfl) ?_
    refine lv_bipush (v := iI 10) hx hb (okX12_findClash (43, .bipush 10, 2) (List.mem_of_getElem? (i := 28) rfl)) (by decide +kernel) ?_
    refine sk_icmp_ge (tgt := 114) hx hb hr_v2 (by decide) (okX12_findClash (45, .if_icmp .ge 69, 3) (List.mem_of_getElem? (i := 29) rfl)) (by decide) (fun c45 => ?_) (fun c45 => ?_)
    · have hM := hM.1 c45
      refine lv_iconst (v := iI 0) hx hb (okX12_findClash (114, .iconst 0, 1) (List.mem_of_getElem? (i := 67) rfl)) rfl ?_
      exact sk_zret hx hb hr0 hlocks hK hw (Or.inl rfl) hM (okX12_findClash (115, .ireturn, 1) (List.mem_of_getElem? (i := 68) rfl))
    · have hM := hM.2 c45
      refine lv_aload_n hx hb (okX12_findClash (48, .aload_n 0, 1) (List.mem_of_getElem? (i := 30) rfl)) rfl (lv_at hl 0 rfl) ?_
      refine lv_iload_n hx hb (okX12_findClash (49, .iload_n 2, 1) (List.mem_of_getElem? (i := 31) rfl)) rfl (lv_at hl 1 rfl) ?_
      refine sk_ci (sk_runV (a := 158) (C := RX12) (As := [.int (iI v2)]) (rest := []) S (c_Mo_isInZone l G hr_v2 hM) sk_blind gX12_findClash_X12_isInZone rfl hdX12_isInZone ⟨⟨rfl, rfl⟩, Nat.le_of_ble_eq_true rfl, Nat.le_of_ble_eq_true rfl⟩ (sk_recv hK hw kdn_158 (kd_in kdn_158) (by decide) rfl) (sk_pre hK hw) rfl hl.1 rfl (Nat.le_of_ble_eq_true rfl) (okX12_findClash (50, .invokevirtual 311, 3) (List.mem_of_getElem? (i := 32) rfl)) ⟨Nat.zero_le _, Nat.zero_le _⟩) hw (fun r_50 I_50 H locs hr_r_50 hM hw => ?_)
      obtain ⟨hb_r_50, hM⟩ := hM
      refine sk_if_eq (tgt := 68) hx hb hr_r_50 (okX12_findClash (53, .ifCond .eq 15, 3) (List.mem_of_getElem? (i := 33) rfl)) (by decide) (fun c53 => ?_) (fun c53 => ?_)
      · have hM := hM.1 c53
        refine lv_iload_n hx hb (okX12_findClash (68, .iload_n 2, 1) (List.mem_of_getElem? (i := 42) rfl)) rfl (lv_at hl 1 rfl) ?_
        refine lv_iconst (v := iI 1) hx hb (okX12_findClash (69, .iconst 1, 1) (List.mem_of_getElem? (i := 43) rfl)) rfl ?_
        refine sk_iadd hx hb (okX12_findClash (70, .iadd, 1) (List.mem_of_getElem? (i := 44) rfl)) ?_
        obtain ⟨hr5, hM⟩ := hM
        refine sk_nm (fun v3_71 ev3_71 => ?_)
        have hM := hM v3_71 ev3_71
        have hr_v3_71 : rI v3_71 := by rw [ev3_71]; exact hr5
        refine lv_istore_n (lv' := [(3, .int (iI v3_71)), (0, .ref (sk_ad G 158)), (2, .int (iI v2))]) hx hb (okX12_findClash (71, .istore_n 3, 1) (List.mem_of_getElem? (i := 45) rfl)) rfl hl (by decide) rfl (fun ls hl => ?_)
        exact hJ_72 v2 v3_71 I_50 hr_v2 hr_v3_71 hM H locs ls hw (lv_sub hl [1, 2, 0] rfl)
      · have hM := hM.2 c53
        exact hJ_56 v2 I_50 hr_v2 hM H locs ls hw (lv_sub hl [0, 1] rfl)
  have hJ_40 : ∀ (I : sk_S), J_Mo_findClash_40 Q I → ∀ (H : Heap) (locs : List Loc) (ls : Array Slot), sk_W G 198 sk_t I s H locs → lv_has ls 4 [(0, .ref (sk_ad G 158))] → W p l e (headSpec wsX12_findClash rmX12_findClash).room s m ([.ref (sk_ad G 158), .int (iI p1)].toArray) below meth c H locs 0 0 (MQ below (sk_Qz G 198 sk_t Q) ([.ref (sk_ad G 158), .int (iI p1)].toArray) s 0 0 (sk_A G)) (F0 m 40 ls []) := by
    intro I hM H locs ls hw hl
    unfold J_Mo_findClash_40 at hM
    refine lv_iconst (v := iI 0) hx hb (okX12_findClash (40, .iconst 0, 1) (List.mem_of_getElem? (i := 25) rfl)) rfl ?_
    refine lv_istore_n (lv' := [(2, .int (iI 0)), (0, .ref (sk_ad G 158))]) hx hb (okX12_findClash (41, .istore_n 2, 1) (List.mem_of_getElem? (i := 26) rfl)) rfl hl (by decide) rfl (fun ls hl => ?_)
    exact hJ_42 0 I (by decide) hM H locs ls hw (lv_sub hl [1, 0] rfl)
  have hJ_2 : ∀ (v1 v2 : Int) (I : sk_S), rI v1 → rI v2 → L_Mo_findClash_2 v1 Q v2 I → ∀ (H : Heap) (locs : List Loc) (ls : Array Slot), sk_W G 198 sk_t I s H locs → lv_has ls 4 [(0, .ref (sk_ad G 158)), (1, .int (iI v1)), (2, .int (iI v2))] → W p l e (headSpec wsX12_findClash rmX12_findClash).room s m ([.ref (sk_ad G 158), .int (iI p1)].toArray) below meth c H locs 0 0 (MQ below (sk_Qz G 198 sk_t Q) ([.ref (sk_ad G 158), .int (iI p1)].toArray) s 0 0 (sk_A G)) (F0 m 2 ls []) := by
    intro v1 v2 I hr_v1 hr_v2 hM H locs ls hw hl
    unfold L_Mo_findClash_2 at hM
    obtain ⟨X_2, hX_2⟩ : ∃ X : Int → sk_S → Prop, ∀ (v2 : Int) (I : sk_S), X v2 I ↔ (rI v2 → ∀ (H : Heap) (locs : List Loc) (ls : Array Slot), sk_W G 198 sk_t I s H locs → lv_has ls 4 [(0, .ref (sk_ad G 158)), (1, .int (iI v1)), (2, .int (iI v2))] → W p l e (headSpec wsX12_findClash rmX12_findClash).room s m ([.ref (sk_ad G 158), .int (iI p1)].toArray) below meth c H locs 0 0 (MQ below (sk_Qz G 198 sk_t Q) ([.ref (sk_ad G 158), .int (iI p1)].toArray) s 0 0 (sk_A G)) (F0 m 2 ls [])) := ⟨_, fun _ _ => Iff.rfl⟩
    refine (hX_2 v2 I).1 (hM X_2 (fun v2 I hM => (hX_2 v2 I).2 (fun hr_v2 H locs ls hw hl => ?_))) hr_v2 H locs ls hw hl
    refine lv_iload_n hx hb (okX12_findClash (2, .iload_n 2, 1) (List.mem_of_getElem? (i := 2) rfl)) rfl (lv_at hl 2 rfl) ?_
    refine lv_bipush (v := iI 10) hx hb (okX12_findClash (3, .bipush 10, 2) (List.mem_of_getElem? (i := 3) rfl)) (by decide +kernel) ?_
    refine sk_icmp_ge (tgt := 40) hx hb hr_v2 (by decide) (okX12_findClash (5, .if_icmp .ge 35, 3) (List.mem_of_getElem? (i := 4) rfl)) (by decide) (fun c5 => ?_) (fun c5 => ?_)
    · have hM := hM.1 c5
      exact hJ_40 I hM H locs ls hw (lv_sub hl [0] rfl)
    · have hM := hM.2 c5
      refine lv_aload_n hx hb (okX12_findClash (8, .aload_n 0, 1) (List.mem_of_getElem? (i := 5) rfl)) rfl (lv_at hl 0 rfl) ?_
      refine sk_getr (b := 196) S hK hw kdn_158 (kd_in kdn_158) (C := RX12) (T := TX12) (N := 53) rfl hI12 51 ⟨by decide, rfl, by decide, rfl⟩ rfl (k' := 51) rfl rfl (by decide +kernel) hL0 (okX12_findClash (9, .getfield 128, 3) (List.mem_of_getElem? (i := 6) rfl)) ?_
      refine lv_iload_n hx hb (okX12_findClash (12, .iload_n 2, 1) (List.mem_of_getElem? (i := 7) rfl)) rfl (lv_at hl 2 rfl) ?_
      refine lv_aload_n hx hb (okX12_findClash (13, .aload_n 0, 1) (List.mem_of_getElem? (i := 8) rfl)) rfl (lv_at hl 0 rfl) ?_
      refine lv_iload_n hx hb (okX12_findClash (14, .iload_n 2, 1) (List.mem_of_getElem? (i := 9) rfl)) rfl (lv_at hl 2 rfl) ?_
      refine lv_iload_n hx hb (okX12_findClash (15, .iload_n 1, 1) (List.mem_of_getElem? (i := 10) rfl)) rfl (lv_at hl 1 rfl) ?_
      refine sk_ci (sk_runV (a := 158) (C := RX12) (As := [.int (iI v2), .int (iI v1)]) (rest := [.int (iI v2), .ref (sk_ad G 196)]) S (c_Mo_markOf l G hr_v2 hr_v1 hM) sk_blind gX12_findClash_X12_markOf rfl hdX12_markOf ⟨⟨rfl, rfl⟩, Nat.le_of_ble_eq_true rfl, Nat.le_of_ble_eq_true rfl⟩ (sk_recv hK hw kdn_158 (kd_in kdn_158) (by decide) rfl) (sk_pre hK hw) rfl hl.1 rfl (Nat.le_of_ble_eq_true rfl) (okX12_findClash (16, .invokevirtual 308, 3) (List.mem_of_getElem? (i := 11) rfl)) ⟨Nat.zero_le _, Nat.zero_le _⟩) hw (fun r_16 I_16 H locs hr_r_16 hM hw => ?_)
      obtain ⟨hi1, hM⟩ := hM
      refine sk_ist S hK hw kdn_196 (kd_in kdn_196) (by rw [lnn_196]; exact hi1) hr_r_16 (okX12_findClash (19, .iastore, 1) (List.mem_of_getElem? (i := 12) rfl)) (fun H locs hw => ?_)
      refine lv_aload_n hx hb (okX12_findClash (20, .aload_n 0, 1) (List.mem_of_getElem? (i := 13) rfl)) rfl (lv_at hl 0 rfl) ?_
      refine sk_getr (b := 197) S hK hw kdn_158 (kd_in kdn_158) (C := RX12) (T := TX12) (N := 53) rfl hI12 52 ⟨by decide, rfl, by decide, rfl⟩ rfl (k' := 52) rfl rfl (by decide +kernel) hL1 (okX12_findClash (21, .getfield 131, 3) (List.mem_of_getElem? (i := 14) rfl)) ?_
      refine lv_iload_n hx hb (okX12_findClash (24, .iload_n 2, 1) (List.mem_of_getElem? (i := 15) rfl)) rfl (lv_at hl 2 rfl) ?_
      refine lv_aload_n hx hb (okX12_findClash (25, .aload_n 0, 1) (List.mem_of_getElem? (i := 16) rfl)) rfl (lv_at hl 0 rfl) ?_
      refine lv_iload_n hx hb (okX12_findClash (26, .iload_n 2, 1) (List.mem_of_getElem? (i := 17) rfl)) rfl (lv_at hl 2 rfl) ?_
      refine lv_iload_n hx hb (okX12_findClash (27, .iload_n 1, 1) (List.mem_of_getElem? (i := 18) rfl)) rfl (lv_at hl 1 rfl) ?_
      refine lv_iconst (v := iI 1) hx hb (okX12_findClash (28, .iconst 1, 1) (List.mem_of_getElem? (i := 19) rfl)) rfl ?_
      refine sk_iadd hx hb (okX12_findClash (29, .iadd, 1) (List.mem_of_getElem? (i := 20) rfl)) ?_
      obtain ⟨hr2, hM⟩ := hM
      refine sk_ci (sk_runV (a := 158) (C := RX12) (As := [.int (iI v2), .int (iI (v1 + 1))]) (rest := [.int (iI v2), .ref (sk_ad G 197)]) S (c_Mo_markOf l G hr_v2 hr2 hM) sk_blind gX12_findClash_X12_markOf rfl hdX12_markOf ⟨⟨rfl, rfl⟩, Nat.le_of_ble_eq_true rfl, Nat.le_of_ble_eq_true rfl⟩ (sk_recv hK hw kdn_158 (kd_in kdn_158) (by decide) rfl) (sk_pre hK hw) rfl hl.1 rfl (Nat.le_of_ble_eq_true rfl) (okX12_findClash (30, .invokevirtual 308, 3) (List.mem_of_getElem? (i := 21) rfl)) ⟨Nat.zero_le _, Nat.zero_le _⟩) hw (fun r_30 I_30 H locs hr_r_30 hM hw => ?_)
      obtain ⟨hi3, hM⟩ := hM
      refine sk_ist S hK hw kdn_197 (kd_in kdn_197) (by rw [lnn_197]; exact hi3) hr_r_30 (okX12_findClash (33, .iastore, 1) (List.mem_of_getElem? (i := 22) rfl)) (fun H locs hw => ?_)
      obtain ⟨hr4, hM⟩ := hM
      obtain ⟨v2_34, ev2_34⟩ : ∃ y : Int, y = v2 + 1 := ⟨_, rfl⟩
      have hM := hM v2_34 ev2_34
      have hr_v2_34 : rI v2_34 := by rw [ev2_34]; exact hr4
      refine lv_iinc (v := iI v2_34) (lv' := [(2, .int (iI v2_34)), (0, .ref (sk_ad G 158)), (1, .int (iI v1))]) hx hb (okX12_findClash (34, .iinc 2 1, 3) (List.mem_of_getElem? (i := 23) rfl)) hl (k := 2) rfl (by rw [ev2_34]; exact iI_add _ _) (by decide) rfl (fun ls hl => ?_)
      refine lv_goto (tgt := 2) hx hb (okX12_findClash (37, .goto (-35), 3) (List.mem_of_getElem? (i := 24) rfl)) (by decide) ?_
      exact (hX_2 v2_34 (up I_30 197 v2 r_30)).1 hM hr_v2_34 H locs ls hw (lv_sub hl [1, 2, 0] rfl)
  unfold M_Mo_findClash at hM
  intro H locs hw
  refine lv_iconst (v := iI 0) hx hb (okX12_findClash (0, .iconst 0, 1) (List.mem_of_getElem? (i := 0) rfl)) rfl ?_
  refine lv_istore_n (lv' := [(2, .int (iI 0)), (0, .ref (sk_ad G 158)), (1, .int (iI p1))]) hx hb (okX12_findClash (1, .istore_n 2, 1) (List.mem_of_getElem? (i := 1) rfl)) rfl hl (by decide) rfl (fun ls hl => ?_)
  exact hJ_2 p1 0 I hr_p1 (by decide) hM H locs ls hw (lv_sub hl [1, 2, 0] rfl)
def rmX12_first : Room := { frames := 3, cells := 0, slots := 0, locals := 194 }
set_option maxHeartbeats 4000000 in
set_option maxRecDepth 100000 in
theorem c_Mo_first (l : Launch) (G : sk_G) {Q : Int → sk_S → Prop} {I : sk_S} (hM : M_Mo_first Q I) : Met l yX12_first wsX12_first rmX12_first (va_Pc [.ref (sk_ad G 158)] (sk_U G 198 sk_t I)) (sk_Qi G 198 sk_t Q) 0 0 (sk_A G) := by
  refine Met.ofW (cc := cX12_first) (maxL := 4) (ret := (some .int)) (by decide) rfl ?_
  intro p e s m args below meth c s₁ B hml hv
  obtain ⟨rfl, hU, hK⟩ := hv
  have hx := B.exec
  have hb := B.bytes
  have hr0 := B.returns
  have hts := atoms_spec (ws := wsX12_first) B.pre
  have hown : s.vm.findClass RX12 = some m.cls := findClass_of_methodNamed B.named
  have hlocks := B.notSynchronized
  have S : CallFix p m c cX12_first 4 s ([.ref (sk_ad G 158)].toArray) wsX12_first RX12 := ⟨hx, hb, hml, hown, hts⟩
  have hL0 := hts (.fieldLink RX12 305 "SkyLightsModel" "marks" "I") (by decide +kernel)
  have hL1 := hts (.fieldLink RX12 116 "SkyLightsModel" "markTick" "[I") (by decide +kernel)
  have hI12 : ∀ w ∈ u_ws RX12 TX12 53, w ∈ wsX12_first := by decide +kernel
  have hw : sk_W G 198 sk_t I s s.heap [] := ⟨hU, va_S.rf⟩
  have hl := lv_entry ([.ref (sk_ad G 158)]) (n := 4) (Nat.le_of_ble_eq_true rfl)
  rw [lg_entry_eq]
  generalize (lg_sl ([.ref (sk_ad G 158)]) ++ List.replicate (4 - (lg_sl ([.ref (sk_ad G 158)])).length) Slot.unset).toArray = ls at hl ⊢
  have hl : lv_has ls 4 [(0, .ref (sk_ad G 158))] := hl
  suffices hgo : ∀ (H : Heap) (locs : List Loc), sk_W G 198 sk_t I s H locs → W p l e (headSpec wsX12_first rmX12_first).room s m ([.ref (sk_ad G 158)].toArray) below meth c H locs 0 0 (MQ below (sk_Qi G 198 sk_t Q) ([.ref (sk_ad G 158)].toArray) s 0 0 (sk_A G)) (F0 m 0 ls []) from hgo _ _ hw
  have hJ_2 : ∀ (v1 : Int) (I : sk_S), rI v1 → L_Mo_first_2 Q v1 I → ∀ (H : Heap) (locs : List Loc) (ls : Array Slot), sk_W G 198 sk_t I s H locs → lv_has ls 4 [(0, .ref (sk_ad G 158)), (1, .int (iI v1))] → W p l e (headSpec wsX12_first rmX12_first).room s m ([.ref (sk_ad G 158)].toArray) below meth c H locs 0 0 (MQ below (sk_Qi G 198 sk_t Q) ([.ref (sk_ad G 158)].toArray) s 0 0 (sk_A G)) (F0 m 2 ls []) := by
    intro v1 I hr_v1 hM H locs ls hw hl
    unfold L_Mo_first_2 at hM
    obtain ⟨X_2, hX_2⟩ : ∃ X : Int → sk_S → Prop, ∀ (v1 : Int) (I : sk_S), X v1 I ↔ (rI v1 → ∀ (H : Heap) (locs : List Loc) (ls : Array Slot), sk_W G 198 sk_t I s H locs → lv_has ls 4 [(0, .ref (sk_ad G 158)), (1, .int (iI v1))] → W p l e (headSpec wsX12_first rmX12_first).room s m ([.ref (sk_ad G 158)].toArray) below meth c H locs 0 0 (MQ below (sk_Qi G 198 sk_t Q) ([.ref (sk_ad G 158)].toArray) s 0 0 (sk_A G)) (F0 m 2 ls [])) := ⟨_, fun _ _ => Iff.rfl⟩
    have hJ_53 : ∀ (v2 : Int) (I : sk_S), rI v2 → J_Mo_first_53 v2 Q X_2 I → ∀ (H : Heap) (locs : List Loc) (ls : Array Slot), sk_W G 198 sk_t I s H locs → lv_has ls 4 [(0, .ref (sk_ad G 158)), (2, .int (iI v2))] → W p l e (headSpec wsX12_first rmX12_first).room s m ([.ref (sk_ad G 158)].toArray) below meth c H locs 0 0 (MQ below (sk_Qi G 198 sk_t Q) ([.ref (sk_ad G 158)].toArray) s 0 0 (sk_A G)) (F0 m 53 ls []) := by
      intro v2 I hr_v2 hM H locs ls hw hl
      unfold J_Mo_first_53 at hM
      refine lv_iload_n hx hb (okX12_first (53, .iload_n 2, 1) (List.mem_of_getElem? (i := 31) rfl)) rfl (lv_at hl 1 rfl) ?_
      refine lv_sipush (v := iI 1000) hx hb (okX12_first (54, .sipush 1000, 3) (List.mem_of_getElem? (i := 32) rfl)) (by decide +kernel) ?_
      refine sk_icmp_ne (tgt := 62) hx hb hr_v2 (by decide) (okX12_first (57, .if_icmp .ne 5, 3) (List.mem_of_getElem? (i := 33) rfl)) (by decide) (fun c57 => ?_) (fun c57 => ?_)
      · have hM := hM.1 c57
        refine lv_aload_n hx hb (okX12_first (62, .aload_n 0, 1) (List.mem_of_getElem? (i := 36) rfl)) rfl (lv_at hl 0 rfl) ?_
        refine lv_iload_n hx hb (okX12_first (63, .iload_n 2, 1) (List.mem_of_getElem? (i := 37) rfl)) rfl (lv_at hl 1 rfl) ?_
        refine sk_ci (sk_runV (a := 158) (C := RX12) (As := [.int (iI v2)]) (rest := []) S (c_Mo_findClash l G hr_v2 hM) sk_blind gX12_first_X12_findClash rfl hdX12_findClash ⟨⟨rfl, rfl⟩, Nat.le_of_ble_eq_true rfl, Nat.le_of_ble_eq_true rfl⟩ (sk_recv hK hw kdn_158 (kd_in kdn_158) (by decide) rfl) (sk_pre hK hw) rfl hl.1 rfl (Nat.le_of_ble_eq_true rfl) (okX12_first (64, .invokevirtual 317, 3) (List.mem_of_getElem? (i := 38) rfl)) ⟨Nat.zero_le _, Nat.zero_le _⟩) hw (fun r_64 I_64 H locs hr_r_64 hM hw => ?_)
        obtain ⟨hb_r_64, hM⟩ := hM
        refine sk_if_eq (tgt := 72) hx hb hr_r_64 (okX12_first (67, .ifCond .eq 5, 3) (List.mem_of_getElem? (i := 39) rfl)) (by decide) (fun c67 => ?_) (fun c67 => ?_)
        · have hM := hM.1 c67
          refine lv_iload_n hx hb (okX12_first (72, .iload_n 2, 1) (List.mem_of_getElem? (i := 42) rfl)) rfl (lv_at hl 1 rfl) ?_
          refine lv_istore_n (lv' := [(1, .int (iI v2)), (0, .ref (sk_ad G 158)), (2, .int (iI v2))]) hx hb (okX12_first (73, .istore_n 1, 1) (List.mem_of_getElem? (i := 43) rfl)) rfl hl (by decide) rfl (fun ls hl => ?_)
          refine lv_goto (tgt := 2) hx hb (okX12_first (74, .goto (-72), 3) (List.mem_of_getElem? (i := 44) rfl)) (by decide) ?_
          exact (hX_2 v2 I_64).1 hM hr_v2 H locs ls hw (lv_sub hl [1, 0] rfl)
        · have hM := hM.2 c67
          refine lv_iload_n hx hb (okX12_first (70, .iload_n 2, 1) (List.mem_of_getElem? (i := 40) rfl)) rfl (lv_at hl 1 rfl) ?_
          exact sk_iret hx hb hr0 hlocks hK hw hr_v2 hM (okX12_first (71, .ireturn, 1) (List.mem_of_getElem? (i := 41) rfl))
      · have hM := hM.2 c57
        refine lv_iconst (v := iI (-1)) hx hb (okX12_first (60, .iconst (-1), 1) (List.mem_of_getElem? (i := 34) rfl)) rfl ?_
        exact sk_iret hx hb hr0 hlocks hK hw (by decide) hM (okX12_first (61, .ireturn, 1) (List.mem_of_getElem? (i := 35) rfl))
    have hJ_8 : ∀ (v1 v2 v3 : Int) (I : sk_S), rI v1 → rI v2 → rI v3 → L_Mo_first_8 v1 Q X_2 v2 v3 I → ∀ (H : Heap) (locs : List Loc) (ls : Array Slot), sk_W G 198 sk_t I s H locs → lv_has ls 4 [(0, .ref (sk_ad G 158)), (1, .int (iI v1)), (2, .int (iI v2)), (3, .int (iI v3))] → W p l e (headSpec wsX12_first rmX12_first).room s m ([.ref (sk_ad G 158)].toArray) below meth c H locs 0 0 (MQ below (sk_Qi G 198 sk_t Q) ([.ref (sk_ad G 158)].toArray) s 0 0 (sk_A G)) (F0 m 8 ls []) := by
      intro v1 v2 v3 I hr_v1 hr_v2 hr_v3 hM H locs ls hw hl
      unfold L_Mo_first_8 at hM
      obtain ⟨X_8, hX_8⟩ : ∃ X : Int → Int → sk_S → Prop, ∀ (v2 v3 : Int) (I : sk_S), X v2 v3 I ↔ (rI v2 → rI v3 → ∀ (H : Heap) (locs : List Loc) (ls : Array Slot), sk_W G 198 sk_t I s H locs → lv_has ls 4 [(0, .ref (sk_ad G 158)), (1, .int (iI v1)), (2, .int (iI v2)), (3, .int (iI v3))] → W p l e (headSpec wsX12_first rmX12_first).room s m ([.ref (sk_ad G 158)].toArray) below meth c H locs 0 0 (MQ below (sk_Qi G 198 sk_t Q) ([.ref (sk_ad G 158)].toArray) s 0 0 (sk_A G)) (F0 m 8 ls [])) := ⟨_, fun _ _ _ => Iff.rfl⟩
      have hJ_46 : ∀ (v3 s0 : Int) (I : sk_S), rI v3 → rI s0 → J_Mo_first_46 v1 v3 s0 Q X_2 X_8 I → ∀ (H : Heap) (locs : List Loc) (ls : Array Slot), sk_W G 198 sk_t I s H locs → lv_has ls 4 [(0, .ref (sk_ad G 158)), (1, .int (iI v1)), (3, .int (iI v3))] → W p l e (headSpec wsX12_first rmX12_first).room s m ([.ref (sk_ad G 158)].toArray) below meth c H locs 0 0 (MQ below (sk_Qi G 198 sk_t Q) ([.ref (sk_ad G 158)].toArray) s 0 0 (sk_A G)) (F0 m 46 ls [.int (iI s0)]) := by
        intro v3 s0 I hr_v3 hr_s0 hM H locs ls hw hl
        unfold J_Mo_first_46 at hM
        refine lv_istore_n (lv' := [(2, .int (iI s0)), (0, .ref (sk_ad G 158)), (1, .int (iI v1)), (3, .int (iI v3))]) hx hb (okX12_first (46, .istore_n 2, 1) (List.mem_of_getElem? (i := 28) rfl)) rfl hl (by decide) rfl (fun ls hl => ?_)
        obtain ⟨hr8, hM⟩ := hM
        obtain ⟨v3_47, ev3_47⟩ : ∃ y : Int, y = v3 + 1 := ⟨_, rfl⟩
        have hM := hM v3_47 ev3_47
        have hr_v3_47 : rI v3_47 := by rw [ev3_47]; exact hr8
        refine lv_iinc (v := iI v3_47) (lv' := [(3, .int (iI v3_47)), (2, .int (iI s0)), (0, .ref (sk_ad G 158)), (1, .int (iI v1))]) hx hb (okX12_first (47, .iinc 3 1, 3) (List.mem_of_getElem? (i := 29) rfl)) hl (k := 3) rfl (by rw [ev3_47]; exact iI_add _ _) (by decide) rfl (fun ls hl => ?_)
        refine lv_goto (tgt := 8) hx hb (okX12_first (50, .goto (-42), 3) (List.mem_of_getElem? (i := 30) rfl)) (by decide) ?_
        exact (hX_8 s0 v3_47 I).1 hM hr_s0 hr_v3_47 H locs ls hw (lv_sub hl [2, 3, 1, 0] rfl)
      have hJ_45 : ∀ (v2 v3 : Int) (I : sk_S), rI v2 → rI v3 → J_Mo_first_45 v1 v2 v3 Q X_2 X_8 I → ∀ (H : Heap) (locs : List Loc) (ls : Array Slot), sk_W G 198 sk_t I s H locs → lv_has ls 4 [(0, .ref (sk_ad G 158)), (1, .int (iI v1)), (2, .int (iI v2)), (3, .int (iI v3))] → W p l e (headSpec wsX12_first rmX12_first).room s m ([.ref (sk_ad G 158)].toArray) below meth c H locs 0 0 (MQ below (sk_Qi G 198 sk_t Q) ([.ref (sk_ad G 158)].toArray) s 0 0 (sk_A G)) (F0 m 45 ls []) := by
        intro v2 v3 I hr_v2 hr_v3 hM H locs ls hw hl
        unfold J_Mo_first_45 at hM
        refine lv_iload_n hx hb (okX12_first (45, .iload_n 2, 1) (List.mem_of_getElem? (i := 27) rfl)) rfl (lv_at hl 2 rfl) ?_
        exact hJ_46 v3 v2 I hr_v3 hr_v2 hM H locs ls hw (lv_sub hl [0, 1, 3] rfl)
      refine (hX_8 v2 v3 I).1 (hM X_8 (fun v2 v3 I hM => (hX_8 v2 v3 I).2 (fun hr_v2 hr_v3 H locs ls hw hl => ?_))) hr_v2 hr_v3 H locs ls hw hl
      refine lv_iload_n hx hb (okX12_first (8, .iload_n 3, 1) (List.mem_of_getElem? (i := 6) rfl)) rfl (lv_at hl 3 rfl) ?_
      refine lv_aload_n hx hb (okX12_first (9, .aload_n 0, 1) (List.mem_of_getElem? (i := 7) rfl)) rfl (lv_at hl 0 rfl) ?_
      have hr1 := hw.1.2.2 158 48
      refine sk_geti S hK hw kdn_158 (kd_in kdn_158) (C := RX12) (T := TX12) (N := 53) rfl hI12 48 ⟨by decide, rfl, by decide, rfl⟩ rfl (k' := 48) rfl hL0 (okX12_first (10, .getfield 305, 3) (List.mem_of_getElem? (i := 8) rfl)) ?_
      refine sk_icmp_ge (tgt := 53) hx hb hr_v3 hr1 (okX12_first (13, .if_icmp .ge 40, 3) (List.mem_of_getElem? (i := 9) rfl)) (by decide) (fun c13 => ?_) (fun c13 => ?_)
      · have hM := hM.1 c13
        exact hJ_53 v2 I hr_v2 hM H locs ls hw (lv_sub hl [0, 2] rfl)
      · have hM := hM.2 c13
        refine lv_aload_n hx hb (okX12_first (16, .aload_n 0, 1) (List.mem_of_getElem? (i := 10) rfl)) rfl (lv_at hl 0 rfl) ?_
        refine sk_getr (b := 192) S hK hw kdn_158 (kd_in kdn_158) (C := RX12) (T := TX12) (N := 53) rfl hI12 44 ⟨by decide, rfl, by decide, rfl⟩ rfl (k' := 44) rfl rfl (by decide +kernel) hL1 (okX12_first (17, .getfield 116, 3) (List.mem_of_getElem? (i := 11) rfl)) ?_
        refine lv_iload_n hx hb (okX12_first (20, .iload_n 3, 1) (List.mem_of_getElem? (i := 12) rfl)) rfl (lv_at hl 3 rfl) ?_
        obtain ⟨hi2, hM⟩ := hM
        have hr3 := hw.1.2.2 192 v3
        refine sk_ild S hK hw kdn_192 (kd_in kdn_192) (by rw [lnn_192]; exact hi2) (okX12_first (21, .iaload, 1) (List.mem_of_getElem? (i := 13) rfl)) ?_
        refine lv_iload_n hx hb (okX12_first (22, .iload_n 1, 1) (List.mem_of_getElem? (i := 14) rfl)) rfl (lv_at hl 1 rfl) ?_
        refine sk_icmp_le (tgt := 45) hx hb hr3 hr_v1 (okX12_first (23, .if_icmp .le 22, 3) (List.mem_of_getElem? (i := 15) rfl)) (by decide) (fun c23 => ?_) (fun c23 => ?_)
        · have hM := hM.1 c23
          exact hJ_45 v2 v3 I hr_v2 hr_v3 hM H locs ls hw (lv_sub hl [0, 1, 2, 3] rfl)
        · have hM := hM.2 c23
          refine lv_aload_n hx hb (okX12_first (26, .aload_n 0, 1) (List.mem_of_getElem? (i := 16) rfl)) rfl (lv_at hl 0 rfl) ?_
          refine sk_getr (b := 192) S hK hw kdn_158 (kd_in kdn_158) (C := RX12) (T := TX12) (N := 53) rfl hI12 44 ⟨by decide, rfl, by decide, rfl⟩ rfl (k' := 44) rfl rfl (by decide +kernel) hL1 (okX12_first (27, .getfield 116, 3) (List.mem_of_getElem? (i := 17) rfl)) ?_
          refine lv_iload_n hx hb (okX12_first (30, .iload_n 3, 1) (List.mem_of_getElem? (i := 18) rfl)) rfl (lv_at hl 3 rfl) ?_
          obtain ⟨hi4, hM⟩ := hM
          have hr5 := hw.1.2.2 192 v3
          refine sk_ild S hK hw kdn_192 (kd_in kdn_192) (by rw [lnn_192]; exact hi4) (okX12_first (31, .iaload, 1) (List.mem_of_getElem? (i := 19) rfl)) ?_
          refine lv_iload_n hx hb (okX12_first (32, .iload_n 2, 1) (List.mem_of_getElem? (i := 20) rfl)) rfl (lv_at hl 2 rfl) ?_
          refine sk_icmp_ge (tgt := 45) hx hb hr5 hr_v2 (okX12_first (33, .if_icmp .ge 12, 3) (List.mem_of_getElem? (i := 21) rfl)) (by decide) (fun c33 => ?_) (fun c33 => ?_)
          · have hM := hM.1 c33
            exact hJ_45 v2 v3 I hr_v2 hr_v3 hM H locs ls hw (lv_sub hl [0, 1, 2, 3] rfl)
          · have hM := hM.2 c33
            refine lv_aload_n hx hb (okX12_first (36, .aload_n 0, 1) (List.mem_of_getElem? (i := 22) rfl)) rfl (lv_at hl 0 rfl) ?_
            refine sk_getr (b := 192) S hK hw kdn_158 (kd_in kdn_158) (C := RX12) (T := TX12) (N := 53) rfl hI12 44 ⟨by decide, rfl, by decide, rfl⟩ rfl (k' := 44) rfl rfl (by decide +kernel) hL1 (okX12_first (37, .getfield 116, 3) (List.mem_of_getElem? (i := 23) rfl)) ?_
            refine lv_iload_n hx hb (okX12_first (40, .iload_n 3, 1) (List.mem_of_getElem? (i := 24) rfl)) rfl (lv_at hl 3 rfl) ?_
            obtain ⟨hi6, hM⟩ := hM
            have hr7 := hw.1.2.2 192 v3
            refine sk_ild S hK hw kdn_192 (kd_in kdn_192) (by rw [lnn_192]; exact hi6) (okX12_first (41, .iaload, 1) (List.mem_of_getElem? (i := 25) rfl)) ?_
            refine lv_goto (tgt := 46) hx hb (okX12_first (42, .goto 4, 3) (List.mem_of_getElem? (i := 26) rfl)) (by decide) ?_
            exact hJ_46 v3 (I 192 v3) I hr_v3 hr7 hM H locs ls hw (lv_sub hl [0, 1, 3] rfl)
    refine (hX_2 v1 I).1 (hM X_2 (fun v1 I hM => (hX_2 v1 I).2 (fun hr_v1 H locs ls hw hl => ?_))) hr_v1 H locs ls hw hl
    refine lv_sipush (v := iI 1000) hx hb (okX12_first (2, .sipush 1000, 3) (List.mem_of_getElem? (i := 2) rfl)) (by decide +kernel) ?_
    refine lv_istore_n (lv' := [(2, .int (iI 1000)), (0, .ref (sk_ad G 158)), (1, .int (iI v1))]) hx hb (okX12_first (5, .istore_n 2, 1) (List.mem_of_getElem? (i := 3) rfl)) rfl hl (by decide) rfl (fun ls hl => ?_)
    refine lv_iconst (v := iI 0) hx hb (okX12_first (6, .iconst 0, 1) (List.mem_of_getElem? (i := 4) rfl)) rfl ?_
    refine lv_istore_n (lv' := [(3, .int (iI 0)), (2, .int (iI 1000)), (0, .ref (sk_ad G 158)), (1, .int (iI v1))]) hx hb (okX12_first (7, .istore_n 3, 1) (List.mem_of_getElem? (i := 5) rfl)) rfl hl (by decide) rfl (fun ls hl => ?_)
    exact hJ_8 v1 1000 0 I hr_v1 (by decide) (by decide) hM H locs ls hw (lv_sub hl [2, 3, 1, 0] rfl)
  unfold M_Mo_first at hM
  intro H locs hw
  refine lv_iconst (v := iI (-1)) hx hb (okX12_first (0, .iconst (-1), 1) (List.mem_of_getElem? (i := 0) rfl)) rfl ?_
  refine lv_istore_n (lv' := [(1, .int (iI ((-1)))), (0, .ref (sk_ad G 158))]) hx hb (okX12_first (1, .istore_n 1, 1) (List.mem_of_getElem? (i := 1) rfl)) rfl hl (by decide) rfl (fun ls hl => ?_)
  exact hJ_2 ((-1)) I (by decide) hM H locs ls hw (lv_sub hl [1, 0] rfl)
