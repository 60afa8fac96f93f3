def rmX12_isClean : Room := { frames := 3, cells := 0, slots := 0, locals := 172 }
set_option maxHeartbeats 4000000 in
set_option maxRecDepth 100000 in
theorem c_Mo_isClean (l : Launch) (G : sk_G) {p1 : Int} (hr_p1 : rI p1) {Q : Int → sk_S → Prop} {I : sk_S} (hM : M_Mo_isClean p1 Q I) : Met l yX12_isClean wsX12_isClean rmX12_isClean (va_Pc [.ref (sk_ad G 158), .int (iI p1)] (sk_U G 198 sk_t I)) (sk_Qz G 198 sk_t Q) 0 0 (sk_A G) := by
  refine Met.ofW (cc := cX12_isClean) (maxL := 4) (ret := (some .boolean)) (by decide) rfl ?_
  intro p e s m args below meth c s₁ B hml hv
  obtain ⟨rfl, hU, hK⟩ := hv
  have hx := B.exec
  have hb := B.bytes
  have hr0 := B.returns
  have hts := atoms_spec (ws := wsX12_isClean) B.pre
  have hown : s.vm.findClass RX12 = some m.cls := findClass_of_methodNamed B.named
  have hlocks := B.notSynchronized
  have S : CallFix p m c cX12_isClean 4 s ([.ref (sk_ad G 158), .int (iI p1)].toArray) wsX12_isClean RX12 := ⟨hx, hb, hml, hown, hts⟩
  have hL0 := hts (.fieldLink RX12 65 "SkyLightsModel" "manyOf" "[I") (by decide +kernel)
  have hL1 := hts (.fieldLink RX12 62 "SkyLightsModel" "ticksOf" "[I") (by decide +kernel)
  have hI12 : ∀ w ∈ u_ws RX12 TX12 53, w ∈ wsX12_isClean := by decide +kernel
  have hw : sk_W G 198 sk_t I s s.heap [] := ⟨hU, va_S.rf⟩
  have hl := lv_entry ([.ref (sk_ad G 158), .int (iI p1)]) (n := 4) (Nat.le_of_ble_eq_true rfl)
  rw [lg_entry_eq]
  generalize (lg_sl ([.ref (sk_ad G 158), .int (iI p1)]) ++ List.replicate (4 - (lg_sl ([.ref (sk_ad G 158), .int (iI p1)])).length) Slot.unset).toArray = ls at hl ⊢
  have hl : lv_has ls 4 [(0, .ref (sk_ad G 158)), (1, .int (iI p1))] := hl
  suffices hgo : ∀ (H : Heap) (locs : List Loc), sk_W G 198 sk_t I s H locs → W p l e (headSpec wsX12_isClean rmX12_isClean).room s m ([.ref (sk_ad G 158), .int (iI p1)].toArray) below meth c H locs 0 0 (MQ below (sk_Qz G 198 sk_t Q) ([.ref (sk_ad G 158), .int (iI p1)].toArray) s 0 0 (sk_A G)) (F0 m 0 ls []) from hgo _ _ hw
  have hJ_5 : ∀ (v1 v2 : Int) (I : sk_S), rI v1 → rI v2 → L_Mo_isClean_5 v1 Q v2 I → ∀ (H : Heap) (locs : List Loc) (ls : Array Slot), sk_W G 198 sk_t I s H locs → lv_has ls 4 [(0, .ref (sk_ad G 158)), (1, .int (iI v1)), (2, .int (iI v2))] → W p l e (headSpec wsX12_isClean rmX12_isClean).room s m ([.ref (sk_ad G 158), .int (iI p1)].toArray) below meth c H locs 0 0 (MQ below (sk_Qz G 198 sk_t Q) ([.ref (sk_ad G 158), .int (iI p1)].toArray) s 0 0 (sk_A G)) (F0 m 5 ls []) := by
    intro v1 v2 I hr_v1 hr_v2 hM H locs ls hw hl
    unfold L_Mo_isClean_5 at hM
    obtain ⟨X_5, hX_5⟩ : ∃ X : Int → sk_S → Prop, ∀ (v2 : Int) (I : sk_S), X v2 I ↔ (rI v2 → ∀ (H : Heap) (locs : List Loc) (ls : Array Slot), sk_W G 198 sk_t I s H locs → lv_has ls 4 [(0, .ref (sk_ad G 158)), (1, .int (iI v1)), (2, .int (iI v2))] → W p l e (headSpec wsX12_isClean rmX12_isClean).room s m ([.ref (sk_ad G 158), .int (iI p1)].toArray) below meth c H locs 0 0 (MQ below (sk_Qz G 198 sk_t Q) ([.ref (sk_ad G 158), .int (iI p1)].toArray) s 0 0 (sk_A G)) (F0 m 5 ls [])) := ⟨_, fun _ _ => Iff.rfl⟩
    have hJ_69 : ∀ (v2 : Int) (I : sk_S), rI v2 → J_Mo_isClean_69 v1 v2 Q X_5 I → ∀ (H : Heap) (locs : List Loc) (ls : Array Slot), sk_W G 198 sk_t I s H locs → lv_has ls 4 [(0, .ref (sk_ad G 158)), (1, .int (iI v1)), (2, .int (iI v2))] → W p l e (headSpec wsX12_isClean rmX12_isClean).room s m ([.ref (sk_ad G 158), .int (iI p1)].toArray) below meth c H locs 0 0 (MQ below (sk_Qz G 198 sk_t Q) ([.ref (sk_ad G 158), .int (iI p1)].toArray) s 0 0 (sk_A G)) (F0 m 69 ls []) := by
      intro v2 I hr_v2 hM H locs ls hw hl
      unfold J_Mo_isClean_69 at hM
      obtain ⟨hr11, hM⟩ := hM
      obtain ⟨v2_69, ev2_69⟩ : ∃ y : Int, y = v2 + 1 := ⟨_, rfl⟩
      have hM := hM v2_69 ev2_69
      have hr_v2_69 : rI v2_69 := by rw [ev2_69]; exact hr11
      refine lv_iinc (v := iI v2_69) (lv' := [(2, .int (iI v2_69)), (0, .ref (sk_ad G 158)), (1, .int (iI v1))]) hx hb (okX12_isClean (69, .iinc 2 1, 3) (List.mem_of_getElem? (i := 44) rfl)) hl (k := 2) rfl (by rw [ev2_69]; exact iI_add _ _) (by decide) rfl (fun ls hl => ?_)
      refine lv_goto (tgt := 5) hx hb (okX12_isClean (72, .goto (-67), 3) (List.mem_of_getElem? (i := 45) rfl)) (by decide) ?_
      exact (hX_5 v2_69 I).1 hM hr_v2_69 H locs ls hw (lv_sub hl [1, 2, 0] rfl)
    have hJ_41 : ∀ (v2 v3 : Int) (I : sk_S), rI v2 → rI v3 → L_Mo_isClean_41 v1 v2 Q X_5 v3 I → ∀ (H : Heap) (locs : List Loc) (ls : Array Slot), sk_W G 198 sk_t I s H locs → lv_has ls 4 [(0, .ref (sk_ad G 158)), (1, .int (iI v1)), (2, .int (iI v2)), (3, .int (iI v3))] → W p l e (headSpec wsX12_isClean rmX12_isClean).room s m ([.ref (sk_ad G 158), .int (iI p1)].toArray) below meth c H locs 0 0 (MQ below (sk_Qz G 198 sk_t Q) ([.ref (sk_ad G 158), .int (iI p1)].toArray) s 0 0 (sk_A G)) (F0 m 41 ls []) := by
      intro v2 v3 I hr_v2 hr_v3 hM H locs ls hw hl
      unfold L_Mo_isClean_41 at hM
      obtain ⟨X_41, hX_41⟩ : ∃ X : Int → sk_S → Prop, ∀ (v3 : Int) (I : sk_S), X v3 I ↔ (rI v3 → ∀ (H : Heap) (locs : List Loc) (ls : Array Slot), sk_W G 198 sk_t I s H locs → lv_has ls 4 [(0, .ref (sk_ad G 158)), (1, .int (iI v1)), (2, .int (iI v2)), (3, .int (iI v3))] → W p l e (headSpec wsX12_isClean rmX12_isClean).room s m ([.ref (sk_ad G 158), .int (iI p1)].toArray) below meth c H locs 0 0 (MQ below (sk_Qz G 198 sk_t Q) ([.ref (sk_ad G 158), .int (iI p1)].toArray) s 0 0 (sk_A G)) (F0 m 41 ls [])) := ⟨_, fun _ _ => Iff.rfl⟩
      refine (hX_41 v3 I).1 (hM X_41 (fun v3 I hM => (hX_41 v3 I).2 (fun hr_v3 H locs ls hw hl => ?_))) hr_v3 H locs ls hw hl
      refine lv_iload_n hx hb (okX12_isClean (41, .iload_n 3, 1) (List.mem_of_getElem? (i := 28) rfl)) rfl (lv_at hl 3 rfl) ?_
      refine lv_iload_n hx hb (okX12_isClean (42, .iload_n 2, 1) (List.mem_of_getElem? (i := 29) rfl)) rfl (lv_at hl 2 rfl) ?_
      refine sk_icmp_ge (tgt := 69) hx hb hr_v3 hr_v2 (okX12_isClean (43, .if_icmp .ge 26, 3) (List.mem_of_getElem? (i := 30) rfl)) (by decide) (fun c43 => ?_) (fun c43 => ?_)
      · have hM := hM.1 c43
        exact hJ_69 v2 I hr_v2 hM H locs ls hw (lv_sub hl [0, 1, 2] rfl)
      · have hM := hM.2 c43
        refine lv_aload_n hx hb (okX12_isClean (46, .aload_n 0, 1) (List.mem_of_getElem? (i := 31) rfl)) rfl (lv_at hl 0 rfl) ?_
        refine lv_iload_n hx hb (okX12_isClean (47, .iload_n 2, 1) (List.mem_of_getElem? (i := 32) rfl)) rfl (lv_at hl 2 rfl) ?_
        refine lv_iload_n hx hb (okX12_isClean (48, .iload_n 3, 1) (List.mem_of_getElem? (i := 33) rfl)) rfl (lv_at hl 3 rfl) ?_
        refine lv_aload_n hx hb (okX12_isClean (49, .aload_n 0, 1) (List.mem_of_getElem? (i := 34) rfl)) rfl (lv_at hl 0 rfl) ?_
        refine sk_getr (b := 175) S hK hw kdn_158 (kd_in kdn_158) (C := RX12) (T := TX12) (N := 53) rfl hI12 25 ⟨by decide, rfl, by decide, rfl⟩ rfl (k' := 25) rfl rfl (by decide +kernel) hL1 (okX12_isClean (50, .getfield 62, 3) (List.mem_of_getElem? (i := 35) rfl)) ?_
        refine lv_iload_n hx hb (okX12_isClean (53, .iload_n 1, 1) (List.mem_of_getElem? (i := 36) rfl)) rfl (lv_at hl 1 rfl) ?_
        obtain ⟨hi8, hM⟩ := hM
        have hr9 := hw.1.2.2 175 v1
        refine sk_ild S hK hw kdn_175 (kd_in kdn_175) (by rw [lnn_175]; exact hi8) (okX12_isClean (54, .iaload, 1) (List.mem_of_getElem? (i := 37) rfl)) ?_
        refine sk_ci (sk_runV (a := 158) (C := RX12) (As := [.int (iI v2), .int (iI v3), .int (iI (I 175 v1))]) (rest := []) S (c_Mo_clash l G hr_v2 hr_v3 hr9 hM) sk_blind gX12_isClean_X12_clash rfl hdX12_clash ⟨⟨rfl, rfl⟩, Nat.le_of_ble_eq_true rfl, Nat.le_of_ble_eq_true rfl⟩ (sk_recv hK hw kdn_158 (kd_in kdn_158) (by decide) rfl) (sk_pre hK hw) rfl hl.1 rfl (Nat.le_of_ble_eq_true rfl) (okX12_isClean (55, .invokevirtual 240, 3) (List.mem_of_getElem? (i := 38) rfl)) ⟨Nat.zero_le _, Nat.zero_le _⟩) hw (fun r_55 I_55 H locs hr_r_55 hM hw => ?_)
        obtain ⟨hb_r_55, hM⟩ := hM
        refine sk_if_eq (tgt := 63) hx hb hr_r_55 (okX12_isClean (58, .ifCond .eq 5, 3) (List.mem_of_getElem? (i := 39) rfl)) (by decide) (fun c58 => ?_) (fun c58 => ?_)
        · have hM := hM.1 c58
          obtain ⟨hr10, hM⟩ := hM
          obtain ⟨v3_63, ev3_63⟩ : ∃ y : Int, y = v3 + 1 := ⟨_, rfl⟩
          have hM := hM v3_63 ev3_63
          have hr_v3_63 : rI v3_63 := by rw [ev3_63]; exact hr10
          refine lv_iinc (v := iI v3_63) (lv' := [(3, .int (iI v3_63)), (0, .ref (sk_ad G 158)), (1, .int (iI v1)), (2, .int (iI v2))]) hx hb (okX12_isClean (63, .iinc 3 1, 3) (List.mem_of_getElem? (i := 42) rfl)) hl (k := 3) rfl (by rw [ev3_63]; exact iI_add _ _) (by decide) rfl (fun ls hl => ?_)
          refine lv_goto (tgt := 41) hx hb (okX12_isClean (66, .goto (-25), 3) (List.mem_of_getElem? (i := 43) rfl)) (by decide) ?_
          exact (hX_41 v3_63 I_55).1 hM hr_v3_63 H locs ls hw (lv_sub hl [1, 2, 3, 0] rfl)
        · have hM := hM.2 c58
          refine lv_iconst (v := iI 0) hx hb (okX12_isClean (61, .iconst 0, 1) (List.mem_of_getElem? (i := 40) rfl)) rfl ?_
          exact sk_zret hx hb hr0 hlocks hK hw (Or.inl rfl) hM (okX12_isClean (62, .ireturn, 1) (List.mem_of_getElem? (i := 41) rfl))
    refine (hX_5 v2 I).1 (hM X_5 (fun v2 I hM => (hX_5 v2 I).2 (fun hr_v2 H locs ls hw hl => ?_))) hr_v2 H locs ls hw hl
    refine lv_iload_n hx hb (okX12_isClean (5, .iload_n 2, 1) (List.mem_of_getElem? (i := 4) rfl)) rfl (lv_at hl 2 rfl) ?_
    refine lv_bipush (v := iI 10) hx hb (okX12_isClean (6, .bipush 10, 2) (List.mem_of_getElem? (i := 5) rfl)) (by decide +kernel) ?_
    refine lv_iload_n hx hb (okX12_isClean (8, .iload_n 1, 1) (List.mem_of_getElem? (i := 6) rfl)) rfl (lv_at hl 1 rfl) ?_
    refine sk_imul hx hb (okX12_isClean (9, .imul, 1) (List.mem_of_getElem? (i := 7) rfl)) ?_
    refine lv_aload_n hx hb (okX12_isClean (10, .aload_n 0, 1) (List.mem_of_getElem? (i := 8) rfl)) rfl (lv_at hl 0 rfl) ?_
    refine sk_getr (b := 176) S hK hw kdn_158 (kd_in kdn_158) (C := RX12) (T := TX12) (N := 53) rfl hI12 26 ⟨by decide, rfl, by decide, rfl⟩ rfl (k' := 26) rfl rfl (by decide +kernel) hL0 (okX12_isClean (11, .getfield 65, 3) (List.mem_of_getElem? (i := 9) rfl)) ?_
    refine lv_iload_n hx hb (okX12_isClean (14, .iload_n 1, 1) (List.mem_of_getElem? (i := 10) rfl)) rfl (lv_at hl 1 rfl) ?_
    obtain ⟨hi2, hM⟩ := hM
    have hr3 := hw.1.2.2 176 v1
    refine sk_ild S hK hw kdn_176 (kd_in kdn_176) (by rw [lnn_176]; exact hi2) (okX12_isClean (15, .iaload, 1) (List.mem_of_getElem? (i := 11) rfl)) ?_
    refine sk_iadd hx hb (okX12_isClean (16, .iadd, 1) (List.mem_of_getElem? (i := 12) rfl)) ?_
    obtain ⟨hr4, hM⟩ := hM
    refine sk_icmp_ge (tgt := 75) hx hb hr_v2 hr4 (okX12_isClean (17, .if_icmp .ge 58, 3) (List.mem_of_getElem? (i := 13) rfl)) (by decide) (fun c17 => ?_) (fun c17 => ?_)
    · have hM := hM.1 c17
      refine lv_iconst (v := iI 1) hx hb (okX12_isClean (75, .iconst 1, 1) (List.mem_of_getElem? (i := 46) rfl)) rfl ?_
      exact sk_zret hx hb hr0 hlocks hK hw (Or.inr rfl) hM (okX12_isClean (76, .ireturn, 1) (List.mem_of_getElem? (i := 47) rfl))
    · have hM := hM.2 c17
      refine lv_aload_n hx hb (okX12_isClean (20, .aload_n 0, 1) (List.mem_of_getElem? (i := 14) rfl)) rfl (lv_at hl 0 rfl) ?_
      refine lv_iload_n hx hb (okX12_isClean (21, .iload_n 2, 1) (List.mem_of_getElem? (i := 15) rfl)) rfl (lv_at hl 2 rfl) ?_
      refine lv_aload_n hx hb (okX12_isClean (22, .aload_n 0, 1) (List.mem_of_getElem? (i := 16) rfl)) rfl (lv_at hl 0 rfl) ?_
      refine sk_getr (b := 175) S hK hw kdn_158 (kd_in kdn_158) (C := RX12) (T := TX12) (N := 53) rfl hI12 25 ⟨by decide, rfl, by decide, rfl⟩ rfl (k' := 25) rfl rfl (by decide +kernel) hL1 (okX12_isClean (23, .getfield 62, 3) (List.mem_of_getElem? (i := 17) rfl)) ?_
      refine lv_iload_n hx hb (okX12_isClean (26, .iload_n 1, 1) (List.mem_of_getElem? (i := 18) rfl)) rfl (lv_at hl 1 rfl) ?_
      obtain ⟨hi5, hM⟩ := hM
      have hr6 := hw.1.2.2 175 v1
      refine sk_ild S hK hw kdn_175 (kd_in kdn_175) (by rw [lnn_175]; exact hi5) (okX12_isClean (27, .iaload, 1) (List.mem_of_getElem? (i := 19) rfl)) ?_
      refine sk_ci (sk_runV (a := 158) (C := RX12) (As := [.int (iI v2), .int (iI (I 175 v1))]) (rest := []) S (c_Mo_enters l G hr_v2 hr6 hM) sk_blind gX12_isClean_X12_enters rfl hdX12_enters ⟨⟨rfl, rfl⟩, Nat.le_of_ble_eq_true rfl, Nat.le_of_ble_eq_true rfl⟩ (sk_recv hK hw kdn_158 (kd_in kdn_158) (by decide) rfl) (sk_pre hK hw) rfl hl.1 rfl (Nat.le_of_ble_eq_true rfl) (okX12_isClean (28, .invokevirtual 236, 3) (List.mem_of_getElem? (i := 20) rfl)) ⟨Nat.zero_le _, Nat.zero_le _⟩) hw (fun r_28 I_28 H locs hr_r_28 hM hw => ?_)
      obtain ⟨hb_r_28, hM⟩ := hM
      refine sk_if_eq (tgt := 36) hx hb hr_r_28 (okX12_isClean (31, .ifCond .eq 5, 3) (List.mem_of_getElem? (i := 21) rfl)) (by decide) (fun c31 => ?_) (fun c31 => ?_)
      · have hM := hM.1 c31
        refine lv_bipush (v := iI 10) hx hb (okX12_isClean (36, .bipush 10, 2) (List.mem_of_getElem? (i := 24) rfl)) (by decide +kernel) ?_
        refine lv_iload_n hx hb (okX12_isClean (38, .iload_n 1, 1) (List.mem_of_getElem? (i := 25) rfl)) rfl (lv_at hl 1 rfl) ?_
        refine sk_imul hx hb (okX12_isClean (39, .imul, 1) (List.mem_of_getElem? (i := 26) rfl)) ?_
        obtain ⟨hr7, hM⟩ := hM
        refine sk_nm (fun v3_40 ev3_40 => ?_)
        have hM := hM v3_40 ev3_40
        have hr_v3_40 : rI v3_40 := by rw [ev3_40]; exact hr7
        refine lv_istore_n (lv' := [(3, .int (iI v3_40)), (0, .ref (sk_ad G 158)), (1, .int (iI v1)), (2, .int (iI v2))]) hx hb (okX12_isClean (40, .istore_n 3, 1) (List.mem_of_getElem? (i := 27) rfl)) rfl hl (by decide) rfl (fun ls hl => ?_)
        exact hJ_41 v2 v3_40 I_28 hr_v2 hr_v3_40 hM H locs ls hw (lv_sub hl [1, 2, 3, 0] rfl)
      · have hM := hM.2 c31
        refine lv_iconst (v := iI 0) hx hb (okX12_isClean (34, .iconst 0, 1) (List.mem_of_getElem? (i := 22) rfl)) rfl ?_
        exact sk_zret hx hb hr0 hlocks hK hw (Or.inl rfl) hM (okX12_isClean (35, .ireturn, 1) (List.mem_of_getElem? (i := 23) rfl))
  unfold M_Mo_isClean at hM
  intro H locs hw
  refine lv_bipush (v := iI 10) hx hb (okX12_isClean (0, .bipush 10, 2) (List.mem_of_getElem? (i := 0) rfl)) (by decide +kernel) ?_
  refine lv_iload_n hx hb (okX12_isClean (2, .iload_n 1, 1) (List.mem_of_getElem? (i := 1) rfl)) rfl (lv_at hl 1 rfl) ?_
  refine sk_imul hx hb (okX12_isClean (3, .imul, 1) (List.mem_of_getElem? (i := 2) rfl)) ?_
  obtain ⟨hr1, hM⟩ := hM
  refine sk_nm (fun v2_4 ev2_4 => ?_)
  have hM := hM v2_4 ev2_4
  have hr_v2_4 : rI v2_4 := by rw [ev2_4]; exact hr1
  refine lv_istore_n (lv' := [(2, .int (iI v2_4)), (0, .ref (sk_ad G 158)), (1, .int (iI p1))]) hx hb (okX12_isClean (4, .istore_n 2, 1) (List.mem_of_getElem? (i := 3) rfl)) rfl hl (by decide) rfl (fun ls hl => ?_)
  exact hJ_5 p1 v2_4 I hr_p1 hr_v2_4 hM H locs ls hw (lv_sub hl [1, 2, 0] rfl)
def rmX12_clean : Room := { frames := 4, cells := 0, slots := 0, locals := 227 }
set_option maxHeartbeats 4000000 in
set_option maxRecDepth 100000 in
theorem c_Mo_clean (l : Launch) (G : sk_G) {Q : Int → sk_S → Prop} {I : sk_S} (hM : M_Mo_clean Q I) : Met l yX12_clean wsX12_clean rmX12_clean (va_Pc [.ref (sk_ad G 158)] (sk_U G 198 sk_t I)) (sk_Qi G 198 sk_t Q) 0 0 (sk_A G) := by
  refine Met.ofW (cc := cX12_clean) (maxL := 1) (ret := (some .int)) (by decide) rfl ?_
  intro p e s m args below meth c s₁ B hml hv
  obtain ⟨rfl, hU, hK⟩ := hv
  have hx := B.exec
  have hb := B.bytes
  have hr0 := B.returns
  have hts := atoms_spec (ws := wsX12_clean) B.pre
  have hown : s.vm.findClass RX12 = some m.cls := findClass_of_methodNamed B.named
  have hlocks := B.notSynchronized
  have S : CallFix p m c cX12_clean 1 s ([.ref (sk_ad G 158)].toArray) wsX12_clean RX12 := ⟨hx, hb, hml, hown, hts⟩
  have hL0 := hts (.fieldLink RX12 65 "SkyLightsModel" "manyOf" "[I") (by decide +kernel)
  have hI12 : ∀ w ∈ u_ws RX12 TX12 53, w ∈ wsX12_clean := by decide +kernel
  have hw : sk_W G 198 sk_t I s s.heap [] := ⟨hU, va_S.rf⟩
  have hl := lv_entry ([.ref (sk_ad G 158)]) (n := 1) (Nat.le_of_ble_eq_true rfl)
  rw [lg_entry_eq]
  generalize (lg_sl ([.ref (sk_ad G 158)]) ++ List.replicate (1 - (lg_sl ([.ref (sk_ad G 158)])).length) Slot.unset).toArray = ls at hl ⊢
  have hl : lv_has ls 1 [(0, .ref (sk_ad G 158))] := hl
  suffices hgo : ∀ (H : Heap) (locs : List Loc), sk_W G 198 sk_t I s H locs → W p l e (headSpec wsX12_clean rmX12_clean).room s m ([.ref (sk_ad G 158)].toArray) below meth c H locs 0 0 (MQ below (sk_Qi G 198 sk_t Q) ([.ref (sk_ad G 158)].toArray) s 0 0 (sk_A G)) (F0 m 0 ls []) from hgo _ _ hw
  unfold M_Mo_clean at hM
  intro H locs hw
  refine lv_aload_n hx hb (okX12_clean (0, .aload_n 0, 1) (List.mem_of_getElem? (i := 0) rfl)) rfl (lv_at hl 0 rfl) ?_
  refine sk_getr (b := 176) S hK hw kdn_158 (kd_in kdn_158) (C := RX12) (T := TX12) (N := 53) rfl hI12 26 ⟨by decide, rfl, by decide, rfl⟩ rfl (k' := 26) rfl rfl (by decide +kernel) hL0 (okX12_clean (1, .getfield 65, 3) (List.mem_of_getElem? (i := 1) rfl)) ?_
  refine lv_iconst (v := iI 0) hx hb (okX12_clean (4, .iconst 0, 1) (List.mem_of_getElem? (i := 2) rfl)) rfl ?_
  obtain ⟨hi1, hM⟩ := hM
  have hr2 := hw.1.2.2 176 0
  refine sk_ild S hK hw kdn_176 (kd_in kdn_176) (by rw [lnn_176]; exact hi1) (okX12_clean (5, .iaload, 1) (List.mem_of_getElem? (i := 3) rfl)) ?_
  refine sk_if_ne (tgt := 14) hx hb hr2 (okX12_clean (6, .ifCond .ne 8, 3) (List.mem_of_getElem? (i := 4) rfl)) (by decide) (fun c6 => ?_) (fun c6 => ?_)
  · have hM := hM.1 c6
    refine lv_aload_n hx hb (okX12_clean (14, .aload_n 0, 1) (List.mem_of_getElem? (i := 7) rfl)) rfl (lv_at hl 0 rfl) ?_
    refine lv_iconst (v := iI 0) hx hb (okX12_clean (15, .iconst 0, 1) (List.mem_of_getElem? (i := 8) rfl)) rfl ?_
    refine sk_ci (sk_runV (a := 158) (C := RX12) (As := [.int (iI 0)]) (rest := []) S (c_Mo_isClean l G (by decide) hM) sk_blind gX12_clean_X12_isClean rfl hdX12_isClean ⟨⟨rfl, rfl⟩, Nat.le_of_ble_eq_true rfl, Nat.le_of_ble_eq_true rfl⟩ (sk_recv hK hw kdn_158 (kd_in kdn_158) (by decide) rfl) (sk_pre hK hw) rfl hl.1 rfl (Nat.le_of_ble_eq_true rfl) (okX12_clean (16, .invokevirtual 265, 3) (List.mem_of_getElem? (i := 9) rfl)) ⟨Nat.zero_le _, Nat.zero_le _⟩) hw (fun r_16 I_16 H locs hr_r_16 hM hw => ?_)
    obtain ⟨hb_r_16, hM⟩ := hM
    refine sk_if_eq (tgt := 26) hx hb hr_r_16 (okX12_clean (19, .ifCond .eq 7, 3) (List.mem_of_getElem? (i := 10) rfl)) (by decide) (fun c19 => ?_) (fun c19 => ?_)
    · have hM := hM.1 c19
      refine lv_iconst (v := iI 0) hx hb (okX12_clean (26, .iconst 0, 1) (List.mem_of_getElem? (i := 13) rfl)) rfl ?_
      exact sk_iret hx hb hr0 hlocks hK hw (by decide) hM (okX12_clean (27, .ireturn, 1) (List.mem_of_getElem? (i := 14) rfl))
    · have hM := hM.2 c19
      refine lv_iconst (v := iI 1) hx hb (okX12_clean (22, .iconst 1, 1) (List.mem_of_getElem? (i := 11) rfl)) rfl ?_
      refine lv_goto (tgt := 27) hx hb (okX12_clean (23, .goto 4, 3) (List.mem_of_getElem? (i := 12) rfl)) (by decide) ?_
      exact sk_iret hx hb hr0 hlocks hK hw (by decide) hM (okX12_clean (27, .ireturn, 1) (List.mem_of_getElem? (i := 14) rfl))
  · have hM := hM.2 c6
    refine lv_bipush (v := iI (-3)) hx hb (okX12_clean (9, .bipush (-3), 2) (List.mem_of_getElem? (i := 5) rfl)) (by decide +kernel) ?_
    refine lv_goto (tgt := 27) hx hb (okX12_clean (11, .goto 16, 3) (List.mem_of_getElem? (i := 6) rfl)) (by decide) ?_
    exact sk_iret hx hb hr0 hlocks hK hw (by decide) hM (okX12_clean (27, .ireturn, 1) (List.mem_of_getElem? (i := 14) rfl))
def rmX12_isIn : Room := { frames := 0, cells := 0, slots := 0, locals := 0 }
set_option maxHeartbeats 4000000 in
set_option maxRecDepth 100000 in
theorem c_Mo_isIn (l : Launch) (G : sk_G) {p0 p2 p4 : Int} (hr_p0 : rL p0) (hr_p2 : rL p2) (hr_p4 : rL p4) {Q : Int → sk_S → Prop} {I : sk_S} (hM : M_Mo_isIn p0 p2 p4 Q I) : Met l yX12_isIn wsX12_isIn rmX12_isIn (va_Pc [.long (lI p0), .long (lI p2), .long (lI p4)] (sk_U G 198 sk_t I)) (sk_Qz G 198 sk_t Q) 0 0 (sk_A G) := by
  refine Met.ofW (cc := cX12_isIn) (maxL := 6) (ret := (some .boolean)) (by decide) rfl ?_
  intro p e s m args below meth c s₁ B hml hv
  obtain ⟨rfl, hU, hK⟩ := hv
  have hx := B.exec
  have hb := B.bytes
  have hr0 := B.returns
  have hts := atoms_spec (ws := wsX12_isIn) B.pre
  have hown : s.vm.findClass RX12 = some m.cls := findClass_of_methodNamed B.named
  have hlocks := B.notSynchronized
  have S : CallFix p m c cX12_isIn 6 s ([.long (lI p0), .long (lI p2), .long (lI p4)].toArray) wsX12_isIn RX12 := ⟨hx, hb, hml, hown, hts⟩
  have hw : sk_W G 198 sk_t I s s.heap [] := ⟨hU, va_S.rf⟩
  have hl := lv_entry ([.long (lI p0), .long (lI p2), .long (lI p4)]) (n := 6) (Nat.le_of_ble_eq_true rfl)
  rw [lg_entry_eq]
  generalize (lg_sl ([.long (lI p0), .long (lI p2), .long (lI p4)]) ++ List.replicate (6 - (lg_sl ([.long (lI p0), .long (lI p2), .long (lI p4)])).length) Slot.unset).toArray = ls at hl ⊢
  have hl : lv_has ls 6 [(0, .long (lI p0)), (2, .long (lI p2)), (4, .long (lI p4))] := hl
  suffices hgo : ∀ (H : Heap) (locs : List Loc), sk_W G 198 sk_t I s H locs → W p l e (headSpec wsX12_isIn rmX12_isIn).room s m ([.long (lI p0), .long (lI p2), .long (lI p4)].toArray) below meth c H locs 0 0 (MQ below (sk_Qz G 198 sk_t Q) ([.long (lI p0), .long (lI p2), .long (lI p4)].toArray) s 0 0 (sk_A G)) (F0 m 0 ls []) from hgo _ _ hw
  unfold M_Mo_isIn at hM
  intro H locs hw
  refine lv_lload_n hx hb (okX12_isIn (0, .lload_n 0, 1) (List.mem_of_getElem? (i := 0) rfl)) rfl (lv_at hl 0 rfl) ?_
  refine lv_lload_n hx hb (okX12_isIn (1, .lload_n 2, 1) (List.mem_of_getElem? (i := 1) rfl)) rfl (lv_at hl 1 rfl) ?_
  refine sk_lcmp hx hb hr_p0 hr_p2 (okX12_isIn (2, .lcmp, 1) (List.mem_of_getElem? (i := 2) rfl)) ?_
  refine sk_if_lt (tgt := 17) hx hb (rI_lcmp _ _) (okX12_isIn (3, .ifCond .lt 14, 3) (List.mem_of_getElem? (i := 3) rfl)) (by decide) (fun c3 => ?_) (fun c3 => ?_)
  · have hM := hM.1 (lcmp_lt.1 c3)
    refine lv_iconst (v := iI 0) hx hb (okX12_isIn (17, .iconst 0, 1) (List.mem_of_getElem? (i := 10) rfl)) rfl ?_
    exact sk_zret hx hb hr0 hlocks hK hw (Or.inl rfl) hM (okX12_isIn (18, .ireturn, 1) (List.mem_of_getElem? (i := 11) rfl))
  · have hM := hM.2 (fun q => c3 (lcmp_lt.2 q))
    refine lv_lload_n hx hb (okX12_isIn (6, .lload_n 0, 1) (List.mem_of_getElem? (i := 4) rfl)) rfl (lv_at hl 0 rfl) ?_
    refine lv_lload hx hb (okX12_isIn (7, .lload 4, 2) (List.mem_of_getElem? (i := 5) rfl)) (lv_at hl 2 rfl) ?_
    refine sk_lcmp hx hb hr_p0 hr_p4 (okX12_isIn (9, .lcmp, 1) (List.mem_of_getElem? (i := 6) rfl)) ?_
    refine sk_if_gt (tgt := 17) hx hb (rI_lcmp _ _) (okX12_isIn (10, .ifCond .gt 7, 3) (List.mem_of_getElem? (i := 7) rfl)) (by decide) (fun c10 => ?_) (fun c10 => ?_)
    · have hM := hM.1 (lcmp_gt.1 c10)
      refine lv_iconst (v := iI 0) hx hb (okX12_isIn (17, .iconst 0, 1) (List.mem_of_getElem? (i := 10) rfl)) rfl ?_
      exact sk_zret hx hb hr0 hlocks hK hw (Or.inl rfl) hM (okX12_isIn (18, .ireturn, 1) (List.mem_of_getElem? (i := 11) rfl))
    · have hM := hM.2 (fun q => c10 (lcmp_gt.2 q))
      refine lv_iconst (v := iI 1) hx hb (okX12_isIn (13, .iconst 1, 1) (List.mem_of_getElem? (i := 8) rfl)) rfl ?_
      refine lv_goto (tgt := 18) hx hb (okX12_isIn (14, .goto 4, 3) (List.mem_of_getElem? (i := 9) rfl)) (by decide) ?_
      exact sk_zret hx hb hr0 hlocks hK hw (Or.inr rfl) hM (okX12_isIn (18, .ireturn, 1) (List.mem_of_getElem? (i := 11) rfl))
def rmX12_length : Room := { frames := 0, cells := 0, slots := 0, locals := 0 }
set_option maxHeartbeats 4000000 in
set_option maxRecDepth 100000 in
theorem c_Mo_length (l : Launch) (G : sk_G) {Q : Int → sk_S → Prop} {I : sk_S} (hM : M_Mo_length Q I) : Met l yX12_length wsX12_length rmX12_length (va_Pc [.ref (sk_ad G 158)] (sk_U G 198 sk_t I)) (sk_Qi G 198 sk_t Q) 0 0 (sk_A G) := by
  refine Met.ofW (cc := cX12_length) (maxL := 3) (ret := (some .int)) (by decide) rfl ?_
  intro p e s m args below meth c s₁ B hml hv
  obtain ⟨rfl, hU, hK⟩ := hv
  have hx := B.exec
  have hb := B.bytes
  have hr0 := B.returns
  have hts := atoms_spec (ws := wsX12_length) B.pre
  have hown : s.vm.findClass RX12 = some m.cls := findClass_of_methodNamed B.named
  have hlocks := B.notSynchronized
  have S : CallFix p m c cX12_length 3 s ([.ref (sk_ad G 158)].toArray) wsX12_length RX12 := ⟨hx, hb, hml, hown, hts⟩
  have hL0 := hts (.fieldLink RX12 156 "SkyLightsModel" "scenes" "I") (by decide +kernel)
  have hL1 := hts (.fieldLink RX12 95 "SkyLightsModel" "sceneTicks" "[I") (by decide +kernel)
  have hL2 := hts (.fieldLink RX12 98 "SkyLightsModel" "sceneHold" "[I") (by decide +kernel)
  have hI12 : ∀ w ∈ u_ws RX12 TX12 53, w ∈ wsX12_length := by decide +kernel
  have hw : sk_W G 198 sk_t I s s.heap [] := ⟨hU, va_S.rf⟩
  have hl := lv_entry ([.ref (sk_ad G 158)]) (n := 3) (Nat.le_of_ble_eq_true rfl)
  rw [lg_entry_eq]
  generalize (lg_sl ([.ref (sk_ad G 158)]) ++ List.replicate (3 - (lg_sl ([.ref (sk_ad G 158)])).length) Slot.unset).toArray = ls at hl ⊢
  have hl : lv_has ls 3 [(0, .ref (sk_ad G 158))] := hl
  suffices hgo : ∀ (H : Heap) (locs : List Loc), sk_W G 198 sk_t I s H locs → W p l e (headSpec wsX12_length rmX12_length).room s m ([.ref (sk_ad G 158)].toArray) below meth c H locs 0 0 (MQ below (sk_Qi G 198 sk_t Q) ([.ref (sk_ad G 158)].toArray) s 0 0 (sk_A G)) (F0 m 0 ls []) from hgo _ _ hw
  have hJ_34 : ∀ (v1 : Int) (I : sk_S), rI v1 → J_Mo_length_34 v1 Q I → ∀ (H : Heap) (locs : List Loc) (ls : Array Slot), sk_W G 198 sk_t I s H locs → lv_has ls 3 [(0, .ref (sk_ad G 158)), (1, .int (iI v1))] → W p l e (headSpec wsX12_length rmX12_length).room s m ([.ref (sk_ad G 158)].toArray) below meth c H locs 0 0 (MQ below (sk_Qi G 198 sk_t Q) ([.ref (sk_ad G 158)].toArray) s 0 0 (sk_A G)) (F0 m 34 ls []) := by
    intro v1 I hr_v1 hM H locs ls hw hl
    unfold J_Mo_length_34 at hM
    refine lv_aload_n hx hb (okX12_length (34, .aload_n 0, 1) (List.mem_of_getElem? (i := 22) rfl)) rfl (lv_at hl 0 rfl) ?_
    have hr8 := hw.1.2.2 158 41
    refine sk_geti S hK hw kdn_158 (kd_in kdn_158) (C := RX12) (T := TX12) (N := 53) rfl hI12 41 ⟨by decide, rfl, by decide, rfl⟩ rfl (k' := 41) rfl hL0 (okX12_length (35, .getfield 156, 3) (List.mem_of_getElem? (i := 23) rfl)) ?_
    refine sk_if_ne (tgt := 45) hx hb hr8 (okX12_length (38, .ifCond .ne 7, 3) (List.mem_of_getElem? (i := 24) rfl)) (by decide) (fun c38 => ?_) (fun c38 => ?_)
    · have hM := hM.1 c38
      refine lv_iload_n hx hb (okX12_length (45, .iload_n 1, 1) (List.mem_of_getElem? (i := 27) rfl)) rfl (lv_at hl 1 rfl) ?_
      refine lv_aload_n hx hb (okX12_length (46, .aload_n 0, 1) (List.mem_of_getElem? (i := 28) rfl)) rfl (lv_at hl 0 rfl) ?_
      refine sk_getr (b := 186) S hK hw kdn_158 (kd_in kdn_158) (C := RX12) (T := TX12) (N := 53) rfl hI12 36 ⟨by decide, rfl, by decide, rfl⟩ rfl (k' := 36) rfl rfl (by decide +kernel) hL1 (okX12_length (47, .getfield 95, 3) (List.mem_of_getElem? (i := 29) rfl)) ?_
      refine lv_aload_n hx hb (okX12_length (50, .aload_n 0, 1) (List.mem_of_getElem? (i := 30) rfl)) rfl (lv_at hl 0 rfl) ?_
      have hr9 := hw.1.2.2 158 41
      refine sk_geti S hK hw kdn_158 (kd_in kdn_158) (C := RX12) (T := TX12) (N := 53) rfl hI12 41 ⟨by decide, rfl, by decide, rfl⟩ rfl (k' := 41) rfl hL0 (okX12_length (51, .getfield 156, 3) (List.mem_of_getElem? (i := 31) rfl)) ?_
      refine lv_iconst (v := iI 1) hx hb (okX12_length (54, .iconst 1, 1) (List.mem_of_getElem? (i := 32) rfl)) rfl ?_
      refine sk_isub hx hb (okX12_length (55, .isub, 1) (List.mem_of_getElem? (i := 33) rfl)) ?_
      obtain ⟨hi10, hM⟩ := hM
      have hr11 := hw.1.2.2 186 ((I 158 41) - 1)
      refine sk_ild S hK hw kdn_186 (kd_in kdn_186) (by rw [lnn_186]; exact hi10) (okX12_length (56, .iaload, 1) (List.mem_of_getElem? (i := 34) rfl)) ?_
      refine sk_iadd hx hb (okX12_length (57, .iadd, 1) (List.mem_of_getElem? (i := 35) rfl)) ?_
      obtain ⟨hr12, hM⟩ := hM
      exact sk_iret hx hb hr0 hlocks hK hw hr12 hM (okX12_length (58, .ireturn, 1) (List.mem_of_getElem? (i := 36) rfl))
    · have hM := hM.2 c38
      refine lv_iconst (v := iI 0) hx hb (okX12_length (41, .iconst 0, 1) (List.mem_of_getElem? (i := 25) rfl)) rfl ?_
      refine lv_goto (tgt := 58) hx hb (okX12_length (42, .goto 16, 3) (List.mem_of_getElem? (i := 26) rfl)) (by decide) ?_
      exact sk_iret hx hb hr0 hlocks hK hw (by decide) hM (okX12_length (58, .ireturn, 1) (List.mem_of_getElem? (i := 36) rfl))
  have hJ_4 : ∀ (v1 v2 : Int) (I : sk_S), rI v1 → rI v2 → L_Mo_length_4 Q v1 v2 I → ∀ (H : Heap) (locs : List Loc) (ls : Array Slot), sk_W G 198 sk_t I s H locs → lv_has ls 3 [(0, .ref (sk_ad G 158)), (1, .int (iI v1)), (2, .int (iI v2))] → W p l e (headSpec wsX12_length rmX12_length).room s m ([.ref (sk_ad G 158)].toArray) below meth c H locs 0 0 (MQ below (sk_Qi G 198 sk_t Q) ([.ref (sk_ad G 158)].toArray) s 0 0 (sk_A G)) (F0 m 4 ls []) := by
    intro v1 v2 I hr_v1 hr_v2 hM H locs ls hw hl
    unfold L_Mo_length_4 at hM
    obtain ⟨X_4, hX_4⟩ : ∃ X : Int → Int → sk_S → Prop, ∀ (v1 v2 : Int) (I : sk_S), X v1 v2 I ↔ (rI v1 → rI v2 → ∀ (H : Heap) (locs : List Loc) (ls : Array Slot), sk_W G 198 sk_t I s H locs → lv_has ls 3 [(0, .ref (sk_ad G 158)), (1, .int (iI v1)), (2, .int (iI v2))] → W p l e (headSpec wsX12_length rmX12_length).room s m ([.ref (sk_ad G 158)].toArray) below meth c H locs 0 0 (MQ below (sk_Qi G 198 sk_t Q) ([.ref (sk_ad G 158)].toArray) s 0 0 (sk_A G)) (F0 m 4 ls [])) := ⟨_, fun _ _ _ => Iff.rfl⟩
    refine (hX_4 v1 v2 I).1 (hM X_4 (fun v1 v2 I hM => (hX_4 v1 v2 I).2 (fun hr_v1 hr_v2 H locs ls hw hl => ?_))) hr_v1 hr_v2 H locs ls hw hl
    refine lv_iload_n hx hb (okX12_length (4, .iload_n 2, 1) (List.mem_of_getElem? (i := 4) rfl)) rfl (lv_at hl 2 rfl) ?_
    refine lv_aload_n hx hb (okX12_length (5, .aload_n 0, 1) (List.mem_of_getElem? (i := 5) rfl)) rfl (lv_at hl 0 rfl) ?_
    have hr1 := hw.1.2.2 158 41
    refine sk_geti S hK hw kdn_158 (kd_in kdn_158) (C := RX12) (T := TX12) (N := 53) rfl hI12 41 ⟨by decide, rfl, by decide, rfl⟩ rfl (k' := 41) rfl hL0 (okX12_length (6, .getfield 156, 3) (List.mem_of_getElem? (i := 6) rfl)) ?_
    refine sk_icmp_ge (tgt := 34) hx hb hr_v2 hr1 (okX12_length (9, .if_icmp .ge 25, 3) (List.mem_of_getElem? (i := 7) rfl)) (by decide) (fun c9 => ?_) (fun c9 => ?_)
    · have hM := hM.1 c9
      exact hJ_34 v1 I hr_v1 hM H locs ls hw (lv_sub hl [0, 1] rfl)
    · have hM := hM.2 c9
      refine lv_iload_n hx hb (okX12_length (12, .iload_n 1, 1) (List.mem_of_getElem? (i := 8) rfl)) rfl (lv_at hl 1 rfl) ?_
      refine lv_aload_n hx hb (okX12_length (13, .aload_n 0, 1) (List.mem_of_getElem? (i := 9) rfl)) rfl (lv_at hl 0 rfl) ?_
      refine sk_getr (b := 186) S hK hw kdn_158 (kd_in kdn_158) (C := RX12) (T := TX12) (N := 53) rfl hI12 36 ⟨by decide, rfl, by decide, rfl⟩ rfl (k' := 36) rfl rfl (by decide +kernel) hL1 (okX12_length (14, .getfield 95, 3) (List.mem_of_getElem? (i := 10) rfl)) ?_
      refine lv_iload_n hx hb (okX12_length (17, .iload_n 2, 1) (List.mem_of_getElem? (i := 11) rfl)) rfl (lv_at hl 2 rfl) ?_
      obtain ⟨hi2, hM⟩ := hM
      have hr3 := hw.1.2.2 186 v2
      refine sk_ild S hK hw kdn_186 (kd_in kdn_186) (by rw [lnn_186]; exact hi2) (okX12_length (18, .iaload, 1) (List.mem_of_getElem? (i := 12) rfl)) ?_
      refine lv_aload_n hx hb (okX12_length (19, .aload_n 0, 1) (List.mem_of_getElem? (i := 13) rfl)) rfl (lv_at hl 0 rfl) ?_
      refine sk_getr (b := 187) S hK hw kdn_158 (kd_in kdn_158) (C := RX12) (T := TX12) (N := 53) rfl hI12 37 ⟨by decide, rfl, by decide, rfl⟩ rfl (k' := 37) rfl rfl (by decide +kernel) hL2 (okX12_length (20, .getfield 98, 3) (List.mem_of_getElem? (i := 14) rfl)) ?_
      refine lv_iload_n hx hb (okX12_length (23, .iload_n 2, 1) (List.mem_of_getElem? (i := 15) rfl)) rfl (lv_at hl 2 rfl) ?_
      obtain ⟨hi4, hM⟩ := hM
      have hr5 := hw.1.2.2 187 v2
      refine sk_ild S hK hw kdn_187 (kd_in kdn_187) (by rw [lnn_187]; exact hi4) (okX12_length (24, .iaload, 1) (List.mem_of_getElem? (i := 16) rfl)) ?_
      refine sk_iadd hx hb (okX12_length (25, .iadd, 1) (List.mem_of_getElem? (i := 17) rfl)) ?_
      refine sk_iadd hx hb (okX12_length (26, .iadd, 1) (List.mem_of_getElem? (i := 18) rfl)) ?_
      obtain ⟨hr6, hM⟩ := hM
      refine sk_nm (fun v1_27 ev1_27 => ?_)
      have hM := hM v1_27 ev1_27
      have hr_v1_27 : rI v1_27 := by rw [ev1_27]; exact hr6
      refine lv_istore_n (lv' := [(1, .int (iI v1_27)), (0, .ref (sk_ad G 158)), (2, .int (iI v2))]) hx hb (okX12_length (27, .istore_n 1, 1) (List.mem_of_getElem? (i := 19) rfl)) rfl hl (by decide) rfl (fun ls hl => ?_)
      obtain ⟨hr7, hM⟩ := hM
      obtain ⟨v2_28, ev2_28⟩ : ∃ y : Int, y = v2 + 1 := ⟨_, rfl⟩
      have hM := hM v2_28 ev2_28
      have hr_v2_28 : rI v2_28 := by rw [ev2_28]; exact hr7
      refine lv_iinc (v := iI v2_28) (lv' := [(2, .int (iI v2_28)), (1, .int (iI v1_27)), (0, .ref (sk_ad G 158))]) hx hb (okX12_length (28, .iinc 2 1, 3) (List.mem_of_getElem? (i := 20) rfl)) hl (k := 2) rfl (by rw [ev2_28]; exact iI_add _ _) (by decide) rfl (fun ls hl => ?_)
      refine lv_goto (tgt := 4) hx hb (okX12_length (31, .goto (-27), 3) (List.mem_of_getElem? (i := 21) rfl)) (by decide) ?_
      exact (hX_4 v1_27 v2_28 I).1 hM hr_v1_27 hr_v2_28 H locs ls hw (lv_sub hl [2, 1, 0] rfl)
  unfold M_Mo_length at hM
  intro H locs hw
  refine lv_iconst (v := iI 0) hx hb (okX12_length (0, .iconst 0, 1) (List.mem_of_getElem? (i := 0) rfl)) rfl ?_
  refine lv_istore_n (lv' := [(1, .int (iI 0)), (0, .ref (sk_ad G 158))]) hx hb (okX12_length (1, .istore_n 1, 1) (List.mem_of_getElem? (i := 1) rfl)) rfl hl (by decide) rfl (fun ls hl => ?_)
  refine lv_iconst (v := iI 0) hx hb (okX12_length (2, .iconst 0, 1) (List.mem_of_getElem? (i := 2) rfl)) rfl ?_
  refine lv_istore_n (lv' := [(2, .int (iI 0)), (1, .int (iI 0)), (0, .ref (sk_ad G 158))]) hx hb (okX12_length (3, .istore_n 2, 1) (List.mem_of_getElem? (i := 3) rfl)) rfl hl (by decide) rfl (fun ls hl => ?_)
  exact hJ_4 0 0 I (by decide) (by decide) hM H locs ls hw (lv_sub hl [2, 1, 0] rfl)
def rmX12_colour : Room := { frames := 1, cells := 0, slots := 0, locals := 57 }
set_option maxHeartbeats 4000000 in
set_option maxRecDepth 100000 in
theorem c_Mo_colour (l : Launch) (G : sk_G) {p1 : Int} (hr_p1 : rI p1) {Q : Int → sk_S → Prop} {I : sk_S} (hM : M_Mo_colour p1 Q I) : Met l yX12_colour wsX12_colour rmX12_colour (va_Pc [.ref (sk_ad G 158), .int (iI p1)] (sk_U G 198 sk_t I)) (sk_Qi G 198 sk_t Q) 0 0 (sk_A G) := by
  refine Met.ofW (cc := cX12_colour) (maxL := 6) (ret := (some .int)) (by decide) rfl ?_
  intro p e s m args below meth c s₁ B hml hv
  obtain ⟨rfl, hU, hK⟩ := hv
  have hx := B.exec
  have hb := B.bytes
  have hr0 := B.returns
  have hts := atoms_spec (ws := wsX12_colour) B.pre
  have hown : s.vm.findClass RX12 = some m.cls := findClass_of_methodNamed B.named
  have hlocks := B.notSynchronized
  have S : CallFix p m c cX12_colour 6 s ([.ref (sk_ad G 158), .int (iI p1)].toArray) wsX12_colour RX12 := ⟨hx, hb, hml, hown, hts⟩
  have hL0 := hts (.fieldLink RX12 156 "SkyLightsModel" "scenes" "I") (by decide +kernel)
  have hL1 := hts (.fieldLink RX12 95 "SkyLightsModel" "sceneTicks" "[I") (by decide +kernel)
  have hL2 := hts (.fieldLink RX12 101 "SkyLightsModel" "sceneCue" "[I") (by decide +kernel)
  have hL3 := hts (.fieldLink RX12 98 "SkyLightsModel" "sceneHold" "[I") (by decide +kernel)
  have hI12 : ∀ w ∈ u_ws RX12 TX12 53, w ∈ wsX12_colour := by decide +kernel
  have hw : sk_W G 198 sk_t I s s.heap [] := ⟨hU, va_S.rf⟩
  have hl := lv_entry ([.ref (sk_ad G 158), .int (iI p1)]) (n := 6) (Nat.le_of_ble_eq_true rfl)
  rw [lg_entry_eq]
  generalize (lg_sl ([.ref (sk_ad G 158), .int (iI p1)]) ++ List.replicate (6 - (lg_sl ([.ref (sk_ad G 158), .int (iI p1)])).length) Slot.unset).toArray = ls at hl ⊢
  have hl : lv_has ls 6 [(0, .ref (sk_ad G 158)), (1, .int (iI p1))] := hl
  suffices hgo : ∀ (H : Heap) (locs : List Loc), sk_W G 198 sk_t I s H locs → W p l e (headSpec wsX12_colour rmX12_colour).room s m ([.ref (sk_ad G 158), .int (iI p1)].toArray) below meth c H locs 0 0 (MQ below (sk_Qi G 198 sk_t Q) ([.ref (sk_ad G 158), .int (iI p1)].toArray) s 0 0 (sk_A G)) (F0 m 0 ls []) from hgo _ _ hw
  have hJ_56 : ∀ (v3 v4 v5 : Int) (I : sk_S), rI v3 → rI v4 → rI v5 → J_Mo_colour_56 v3 v4 v5 Q I → ∀ (H : Heap) (locs : List Loc) (ls : Array Slot), sk_W G 198 sk_t I s H locs → lv_has ls 6 [(0, .ref (sk_ad G 158)), (3, .int (iI v3)), (4, .int (iI v4)), (5, .int (iI v5))] → W p l e (headSpec wsX12_colour rmX12_colour).room s m ([.ref (sk_ad G 158), .int (iI p1)].toArray) below meth c H locs 0 0 (MQ below (sk_Qi G 198 sk_t Q) ([.ref (sk_ad G 158), .int (iI p1)].toArray) s 0 0 (sk_A G)) (F0 m 56 ls []) := by
    intro v3 v4 v5 I hr_v3 hr_v4 hr_v5 hM H locs ls hw hl
    unfold J_Mo_colour_56 at hM
    refine lv_iload_n hx hb (okX12_colour (56, .iload_n 3, 1) (List.mem_of_getElem? (i := 33) rfl)) rfl (lv_at hl 1 rfl) ?_
    refine lv_aload_n hx hb (okX12_colour (57, .aload_n 0, 1) (List.mem_of_getElem? (i := 34) rfl)) rfl (lv_at hl 0 rfl) ?_
    refine sk_getr (b := 188) S hK hw kdn_158 (kd_in kdn_158) (C := RX12) (T := TX12) (N := 53) rfl hI12 38 ⟨by decide, rfl, by decide, rfl⟩ rfl (k' := 38) rfl rfl (by decide +kernel) hL2 (okX12_colour (58, .getfield 101, 3) (List.mem_of_getElem? (i := 35) rfl)) ?_
    refine lv_iload hx hb (okX12_colour (61, .iload 4, 2) (List.mem_of_getElem? (i := 36) rfl)) (lv_at hl 2 rfl) ?_
    obtain ⟨hi14, hM⟩ := hM
    have hr15 := hw.1.2.2 188 v4
    refine sk_ild S hK hw kdn_188 (kd_in kdn_188) (by rw [lnn_188]; exact hi14) (okX12_colour (63, .iaload, 1) (List.mem_of_getElem? (i := 37) rfl)) ?_
    refine lv_iload_n hx hb (okX12_colour (64, .iload_n 3, 1) (List.mem_of_getElem? (i := 38) rfl)) rfl (lv_at hl 1 rfl) ?_
    refine sk_isub hx hb (okX12_colour (65, .isub, 1) (List.mem_of_getElem? (i := 39) rfl)) ?_
    refine lv_iload hx hb (okX12_colour (66, .iload 5, 2) (List.mem_of_getElem? (i := 40) rfl)) (lv_at hl 3 rfl) ?_
    refine sk_imul hx hb (okX12_colour (68, .imul, 1) (List.mem_of_getElem? (i := 41) rfl)) ?_
    refine lv_aload_n hx hb (okX12_colour (69, .aload_n 0, 1) (List.mem_of_getElem? (i := 42) rfl)) rfl (lv_at hl 0 rfl) ?_
    refine sk_getr (b := 186) S hK hw kdn_158 (kd_in kdn_158) (C := RX12) (T := TX12) (N := 53) rfl hI12 36 ⟨by decide, rfl, by decide, rfl⟩ rfl (k' := 36) rfl rfl (by decide +kernel) hL1 (okX12_colour (70, .getfield 95, 3) (List.mem_of_getElem? (i := 43) rfl)) ?_
    refine lv_iload hx hb (okX12_colour (73, .iload 4, 2) (List.mem_of_getElem? (i := 44) rfl)) (lv_at hl 2 rfl) ?_
    obtain ⟨hi16, hM⟩ := hM
    have hr17 := hw.1.2.2 186 v4
    refine sk_ild S hK hw kdn_186 (kd_in kdn_186) (by rw [lnn_186]; exact hi16) (okX12_colour (75, .iaload, 1) (List.mem_of_getElem? (i := 45) rfl)) ?_
    obtain ⟨hz18, hM⟩ := hM
    refine sk_idiv hx hb hr17 hz18 (okX12_colour (76, .idiv, 1) (List.mem_of_getElem? (i := 46) rfl)) ?_
    refine sk_iadd hx hb (okX12_colour (77, .iadd, 1) (List.mem_of_getElem? (i := 47) rfl)) ?_
    obtain ⟨hr19, hM⟩ := hM
    exact sk_iret hx hb hr0 hlocks hK hw hr19 hM (okX12_colour (78, .ireturn, 1) (List.mem_of_getElem? (i := 48) rfl))
  have hJ_118 : ∀ (v1 v2 v3 : Int) (I : sk_S), rI v1 → rI v2 → rI v3 → J_Mo_colour_118 v1 v2 v3 Q I → ∀ (H : Heap) (locs : List Loc) (ls : Array Slot), sk_W G 198 sk_t I s H locs → lv_has ls 6 [(0, .ref (sk_ad G 158)), (1, .int (iI v1)), (2, .int (iI v2)), (3, .int (iI v3))] → W p l e (headSpec wsX12_colour rmX12_colour).room s m ([.ref (sk_ad G 158), .int (iI p1)].toArray) below meth c H locs 0 0 (MQ below (sk_Qi G 198 sk_t Q) ([.ref (sk_ad G 158), .int (iI p1)].toArray) s 0 0 (sk_A G)) (F0 m 118 ls []) := by
    intro v1 v2 v3 I hr_v1 hr_v2 hr_v3 hM H locs ls hw hl
    unfold J_Mo_colour_118 at hM
    refine lv_iload_n hx hb (okX12_colour (118, .iload_n 3, 1) (List.mem_of_getElem? (i := 73) rfl)) rfl (lv_at hl 3 rfl) ?_
    refine lv_iload_n hx hb (okX12_colour (119, .iload_n 3, 1) (List.mem_of_getElem? (i := 74) rfl)) rfl (lv_at hl 3 rfl) ?_
    refine lv_iload_n hx hb (okX12_colour (120, .iload_n 1, 1) (List.mem_of_getElem? (i := 75) rfl)) rfl (lv_at hl 1 rfl) ?_
    refine lv_iload_n hx hb (okX12_colour (121, .iload_n 2, 1) (List.mem_of_getElem? (i := 76) rfl)) rfl (lv_at hl 2 rfl) ?_
    refine sk_isub hx hb (okX12_colour (122, .isub, 1) (List.mem_of_getElem? (i := 77) rfl)) ?_
    refine sk_imul hx hb (okX12_colour (123, .imul, 1) (List.mem_of_getElem? (i := 78) rfl)) ?_
    refine lv_aload_n hx hb (okX12_colour (124, .aload_n 0, 1) (List.mem_of_getElem? (i := 79) rfl)) rfl (lv_at hl 0 rfl) ?_
    refine sk_getr (b := 186) S hK hw kdn_158 (kd_in kdn_158) (C := RX12) (T := TX12) (N := 53) rfl hI12 36 ⟨by decide, rfl, by decide, rfl⟩ rfl (k' := 36) rfl rfl (by decide +kernel) hL1 (okX12_colour (125, .getfield 95, 3) (List.mem_of_getElem? (i := 80) rfl)) ?_
    refine lv_aload_n hx hb (okX12_colour (128, .aload_n 0, 1) (List.mem_of_getElem? (i := 81) rfl)) rfl (lv_at hl 0 rfl) ?_
    have hr20 := hw.1.2.2 158 41
    refine sk_geti S hK hw kdn_158 (kd_in kdn_158) (C := RX12) (T := TX12) (N := 53) rfl hI12 41 ⟨by decide, rfl, by decide, rfl⟩ rfl (k' := 41) rfl hL0 (okX12_colour (129, .getfield 156, 3) (List.mem_of_getElem? (i := 82) rfl)) ?_
    refine lv_iconst (v := iI 1) hx hb (okX12_colour (132, .iconst 1, 1) (List.mem_of_getElem? (i := 83) rfl)) rfl ?_
    refine sk_isub hx hb (okX12_colour (133, .isub, 1) (List.mem_of_getElem? (i := 84) rfl)) ?_
    obtain ⟨hi21, hM⟩ := hM
    have hr22 := hw.1.2.2 186 ((I 158 41) - 1)
    refine sk_ild S hK hw kdn_186 (kd_in kdn_186) (by rw [lnn_186]; exact hi21) (okX12_colour (134, .iaload, 1) (List.mem_of_getElem? (i := 85) rfl)) ?_
    obtain ⟨hz23, hM⟩ := hM
    refine sk_idiv hx hb hr22 hz23 (okX12_colour (135, .idiv, 1) (List.mem_of_getElem? (i := 86) rfl)) ?_
    refine sk_isub hx hb (okX12_colour (136, .isub, 1) (List.mem_of_getElem? (i := 87) rfl)) ?_
    obtain ⟨hr24, hM⟩ := hM
    exact sk_iret hx hb hr0 hlocks hK hw hr24 hM (okX12_colour (137, .ireturn, 1) (List.mem_of_getElem? (i := 88) rfl))
  have hJ_30 : ∀ (v1 v2 v3 v4 : Int) (I : sk_S), rI v1 → rI v2 → rI v3 → rI v4 → L_Mo_colour_30 v1 Q v2 v3 v4 I → ∀ (H : Heap) (locs : List Loc) (ls : Array Slot), sk_W G 198 sk_t I s H locs → lv_has ls 6 [(0, .ref (sk_ad G 158)), (1, .int (iI v1)), (2, .int (iI v2)), (3, .int (iI v3)), (4, .int (iI v4))] → W p l e (headSpec wsX12_colour rmX12_colour).room s m ([.ref (sk_ad G 158), .int (iI p1)].toArray) below meth c H locs 0 0 (MQ below (sk_Qi G 198 sk_t Q) ([.ref (sk_ad G 158), .int (iI p1)].toArray) s 0 0 (sk_A G)) (F0 m 30 ls []) := by
    intro v1 v2 v3 v4 I hr_v1 hr_v2 hr_v3 hr_v4 hM H locs ls hw hl
    unfold L_Mo_colour_30 at hM
    obtain ⟨X_30, hX_30⟩ : ∃ X : Int → Int → Int → sk_S → Prop, ∀ (v2 v3 v4 : Int) (I : sk_S), X v2 v3 v4 I ↔ (rI v2 → rI v3 → rI v4 → ∀ (H : Heap) (locs : List Loc) (ls : Array Slot), sk_W G 198 sk_t I s H locs → lv_has ls 6 [(0, .ref (sk_ad G 158)), (1, .int (iI v1)), (2, .int (iI v2)), (3, .int (iI v3)), (4, .int (iI v4))] → W p l e (headSpec wsX12_colour rmX12_colour).room s m ([.ref (sk_ad G 158), .int (iI p1)].toArray) below meth c H locs 0 0 (MQ below (sk_Qi G 198 sk_t Q) ([.ref (sk_ad G 158), .int (iI p1)].toArray) s 0 0 (sk_A G)) (F0 m 30 ls [])) := ⟨_, fun _ _ _ _ => Iff.rfl⟩
    refine (hX_30 v2 v3 v4 I).1 (hM X_30 (fun v2 v3 v4 I hM => (hX_30 v2 v3 v4 I).2 (fun hr_v2 hr_v3 hr_v4 H locs ls hw hl => ?_))) hr_v2 hr_v3 hr_v4 H locs ls hw hl
    refine lv_iload hx hb (okX12_colour (30, .iload 4, 2) (List.mem_of_getElem? (i := 19) rfl)) (lv_at hl 4 rfl) ?_
    refine lv_aload_n hx hb (okX12_colour (32, .aload_n 0, 1) (List.mem_of_getElem? (i := 20) rfl)) rfl (lv_at hl 0 rfl) ?_
    have hr2 := hw.1.2.2 158 41
    refine sk_geti S hK hw kdn_158 (kd_in kdn_158) (C := RX12) (T := TX12) (N := 53) rfl hI12 41 ⟨by decide, rfl, by decide, rfl⟩ rfl (k' := 41) rfl hL0 (okX12_colour (33, .getfield 156, 3) (List.mem_of_getElem? (i := 21) rfl)) ?_
    refine sk_icmp_ge (tgt := 118) hx hb hr_v4 hr2 (okX12_colour (36, .if_icmp .ge 82, 3) (List.mem_of_getElem? (i := 22) rfl)) (by decide) (fun c36 => ?_) (fun c36 => ?_)
    · have hM := hM.1 c36
      exact hJ_118 v1 v2 v3 I hr_v1 hr_v2 hr_v3 hM H locs ls hw (lv_sub hl [0, 1, 2, 3] rfl)
    · have hM := hM.2 c36
      refine lv_iload_n hx hb (okX12_colour (39, .iload_n 1, 1) (List.mem_of_getElem? (i := 23) rfl)) rfl (lv_at hl 1 rfl) ?_
      refine lv_iload_n hx hb (okX12_colour (40, .iload_n 2, 1) (List.mem_of_getElem? (i := 24) rfl)) rfl (lv_at hl 2 rfl) ?_
      refine sk_isub hx hb (okX12_colour (41, .isub, 1) (List.mem_of_getElem? (i := 25) rfl)) ?_
      obtain ⟨hr3, hM⟩ := hM
      refine sk_nm (fun v5_42 ev5_42 => ?_)
      have hM := hM v5_42 ev5_42
      have hr_v5_42 : rI v5_42 := by rw [ev5_42]; exact hr3
      refine lv_istore (lv' := [(5, .int (iI v5_42)), (0, .ref (sk_ad G 158)), (1, .int (iI v1)), (2, .int (iI v2)), (3, .int (iI v3)), (4, .int (iI v4))]) hx hb (okX12_colour (42, .istore 5, 2) (List.mem_of_getElem? (i := 26) rfl)) hl (by decide) rfl (fun ls hl => ?_)
      refine lv_iload hx hb (okX12_colour (44, .iload 5, 2) (List.mem_of_getElem? (i := 27) rfl)) (lv_at hl 0 rfl) ?_
      refine lv_aload_n hx hb (okX12_colour (46, .aload_n 0, 1) (List.mem_of_getElem? (i := 28) rfl)) rfl (lv_at hl 1 rfl) ?_
      refine sk_getr (b := 186) S hK hw kdn_158 (kd_in kdn_158) (C := RX12) (T := TX12) (N := 53) rfl hI12 36 ⟨by decide, rfl, by decide, rfl⟩ rfl (k' := 36) rfl rfl (by decide +kernel) hL1 (okX12_colour (47, .getfield 95, 3) (List.mem_of_getElem? (i := 29) rfl)) ?_
      refine lv_iload hx hb (okX12_colour (50, .iload 4, 2) (List.mem_of_getElem? (i := 30) rfl)) (lv_at hl 5 rfl) ?_
      obtain ⟨hi4, hM⟩ := hM
      have hr5 := hw.1.2.2 186 v4
      refine sk_ild S hK hw kdn_186 (kd_in kdn_186) (by rw [lnn_186]; exact hi4) (okX12_colour (52, .iaload, 1) (List.mem_of_getElem? (i := 31) rfl)) ?_
      refine sk_icmp_ge (tgt := 79) hx hb hr_v5_42 hr5 (okX12_colour (53, .if_icmp .ge 26, 3) (List.mem_of_getElem? (i := 32) rfl)) (by decide) (fun c53 => ?_) (fun c53 => ?_)
      · have hM := hM.1 c53
        refine lv_aload_n hx hb (okX12_colour (79, .aload_n 0, 1) (List.mem_of_getElem? (i := 49) rfl)) rfl (lv_at hl 1 rfl) ?_
        refine sk_getr (b := 188) S hK hw kdn_158 (kd_in kdn_158) (C := RX12) (T := TX12) (N := 53) rfl hI12 38 ⟨by decide, rfl, by decide, rfl⟩ rfl (k' := 38) rfl rfl (by decide +kernel) hL2 (okX12_colour (80, .getfield 101, 3) (List.mem_of_getElem? (i := 50) rfl)) ?_
        refine lv_iload hx hb (okX12_colour (83, .iload 4, 2) (List.mem_of_getElem? (i := 51) rfl)) (lv_at hl 5 rfl) ?_
        obtain ⟨hi6, hM⟩ := hM
        have hr7 := hw.1.2.2 188 v4
        refine sk_ild S hK hw kdn_188 (kd_in kdn_188) (by rw [lnn_188]; exact hi6) (okX12_colour (85, .iaload, 1) (List.mem_of_getElem? (i := 52) rfl)) ?_
        refine sk_nm (fun v3_86 ev3_86 => ?_)
        have hM := hM v3_86 ev3_86
        have hr_v3_86 : rI v3_86 := by rw [ev3_86]; exact hr7
        refine lv_istore_n (lv' := [(3, .int (iI v3_86)), (5, .int (iI v5_42)), (0, .ref (sk_ad G 158)), (1, .int (iI v1)), (2, .int (iI v2)), (4, .int (iI v4))]) hx hb (okX12_colour (86, .istore_n 3, 1) (List.mem_of_getElem? (i := 53) rfl)) rfl hl (by decide) rfl (fun ls hl => ?_)
        refine lv_iload_n hx hb (okX12_colour (87, .iload_n 2, 1) (List.mem_of_getElem? (i := 54) rfl)) rfl (lv_at hl 4 rfl) ?_
        refine lv_aload_n hx hb (okX12_colour (88, .aload_n 0, 1) (List.mem_of_getElem? (i := 55) rfl)) rfl (lv_at hl 2 rfl) ?_
        refine sk_getr (b := 186) S hK hw kdn_158 (kd_in kdn_158) (C := RX12) (T := TX12) (N := 53) rfl hI12 36 ⟨by decide, rfl, by decide, rfl⟩ rfl (k' := 36) rfl rfl (by decide +kernel) hL1 (okX12_colour (89, .getfield 95, 3) (List.mem_of_getElem? (i := 56) rfl)) ?_
        refine lv_iload hx hb (okX12_colour (92, .iload 4, 2) (List.mem_of_getElem? (i := 57) rfl)) (lv_at hl 5 rfl) ?_
        obtain ⟨hi8, hM⟩ := hM
        have hr9 := hw.1.2.2 186 v4
        refine sk_ild S hK hw kdn_186 (kd_in kdn_186) (by rw [lnn_186]; exact hi8) (okX12_colour (94, .iaload, 1) (List.mem_of_getElem? (i := 58) rfl)) ?_
        refine lv_aload_n hx hb (okX12_colour (95, .aload_n 0, 1) (List.mem_of_getElem? (i := 59) rfl)) rfl (lv_at hl 2 rfl) ?_
        refine sk_getr (b := 187) S hK hw kdn_158 (kd_in kdn_158) (C := RX12) (T := TX12) (N := 53) rfl hI12 37 ⟨by decide, rfl, by decide, rfl⟩ rfl (k' := 37) rfl rfl (by decide +kernel) hL3 (okX12_colour (96, .getfield 98, 3) (List.mem_of_getElem? (i := 60) rfl)) ?_
        refine lv_iload hx hb (okX12_colour (99, .iload 4, 2) (List.mem_of_getElem? (i := 61) rfl)) (lv_at hl 5 rfl) ?_
        obtain ⟨hi10, hM⟩ := hM
        have hr11 := hw.1.2.2 187 v4
        refine sk_ild S hK hw kdn_187 (kd_in kdn_187) (by rw [lnn_187]; exact hi10) (okX12_colour (101, .iaload, 1) (List.mem_of_getElem? (i := 62) rfl)) ?_
        refine sk_iadd hx hb (okX12_colour (102, .iadd, 1) (List.mem_of_getElem? (i := 63) rfl)) ?_
        refine sk_iadd hx hb (okX12_colour (103, .iadd, 1) (List.mem_of_getElem? (i := 64) rfl)) ?_
        obtain ⟨hr12, hM⟩ := hM
        refine sk_nm (fun v2_104 ev2_104 => ?_)
        have hM := hM v2_104 ev2_104
        have hr_v2_104 : rI v2_104 := by rw [ev2_104]; exact hr12
        refine lv_istore_n (lv' := [(2, .int (iI v2_104)), (3, .int (iI v3_86)), (5, .int (iI v5_42)), (0, .ref (sk_ad G 158)), (1, .int (iI v1)), (4, .int (iI v4))]) hx hb (okX12_colour (104, .istore_n 2, 1) (List.mem_of_getElem? (i := 65) rfl)) rfl hl (by decide) rfl (fun ls hl => ?_)
        refine lv_iload_n hx hb (okX12_colour (105, .iload_n 1, 1) (List.mem_of_getElem? (i := 66) rfl)) rfl (lv_at hl 4 rfl) ?_
        refine lv_iload_n hx hb (okX12_colour (106, .iload_n 2, 1) (List.mem_of_getElem? (i := 67) rfl)) rfl (lv_at hl 0 rfl) ?_
        refine sk_icmp_gt (tgt := 112) hx hb hr_v1 hr_v2_104 (okX12_colour (107, .if_icmp .gt 5, 3) (List.mem_of_getElem? (i := 68) rfl)) (by decide) (fun c107 => ?_) (fun c107 => ?_)
        · have hM := hM.1 c107
          obtain ⟨hr13, hM⟩ := hM
          obtain ⟨v4_112, ev4_112⟩ : ∃ y : Int, y = v4 + 1 := ⟨_, rfl⟩
          have hM := hM v4_112 ev4_112
          have hr_v4_112 : rI v4_112 := by rw [ev4_112]; exact hr13
          refine lv_iinc (v := iI v4_112) (lv' := [(4, .int (iI v4_112)), (2, .int (iI v2_104)), (3, .int (iI v3_86)), (5, .int (iI v5_42)), (0, .ref (sk_ad G 158)), (1, .int (iI v1))]) hx hb (okX12_colour (112, .iinc 4 1, 3) (List.mem_of_getElem? (i := 71) rfl)) hl (k := 5) rfl (by rw [ev4_112]; exact iI_add _ _) (by decide) rfl (fun ls hl => ?_)
          refine lv_goto (tgt := 30) hx hb (okX12_colour (115, .goto (-85), 3) (List.mem_of_getElem? (i := 72) rfl)) (by decide) ?_
          exact (hX_30 v2_104 v3_86 v4_112 I).1 hM hr_v2_104 hr_v3_86 hr_v4_112 H locs ls hw (lv_sub hl [4, 5, 1, 2, 0] rfl)
        · have hM := hM.2 c107
          refine lv_iload_n hx hb (okX12_colour (110, .iload_n 3, 1) (List.mem_of_getElem? (i := 69) rfl)) rfl (lv_at hl 1 rfl) ?_
          exact sk_iret hx hb hr0 hlocks hK hw hr_v3_86 hM (okX12_colour (111, .ireturn, 1) (List.mem_of_getElem? (i := 70) rfl))
      · have hM := hM.2 c53
        exact hJ_56 v3 v4 v5_42 I hr_v3 hr_v4 hr_v5_42 hM H locs ls hw (lv_sub hl [1, 4, 5, 0] rfl)
  unfold M_Mo_colour at hM
  intro H locs hw
  refine lv_aload_n hx hb (okX12_colour (0, .aload_n 0, 1) (List.mem_of_getElem? (i := 0) rfl)) rfl (lv_at hl 0 rfl) ?_
  have hr1 := hw.1.2.2 158 41
  refine sk_geti S hK hw kdn_158 (kd_in kdn_158) (C := RX12) (T := TX12) (N := 53) rfl hI12 41 ⟨by decide, rfl, by decide, rfl⟩ rfl (k' := 41) rfl hL0 (okX12_colour (1, .getfield 156, 3) (List.mem_of_getElem? (i := 1) rfl)) ?_
  refine sk_if_eq (tgt := 21) hx hb hr1 (okX12_colour (4, .ifCond .eq 17, 3) (List.mem_of_getElem? (i := 2) rfl)) (by decide) (fun c4 => ?_) (fun c4 => ?_)
  · have hM := hM.1 c4
    refine lv_iconst (v := iI (-1)) hx hb (okX12_colour (21, .iconst (-1), 1) (List.mem_of_getElem? (i := 11) rfl)) rfl ?_
    exact sk_iret hx hb hr0 hlocks hK hw (by decide) hM (okX12_colour (22, .ireturn, 1) (List.mem_of_getElem? (i := 12) rfl))
  · have hM := hM.2 c4
    refine lv_iload_n hx hb (okX12_colour (7, .iload_n 1, 1) (List.mem_of_getElem? (i := 3) rfl)) rfl (lv_at hl 1 rfl) ?_
    refine sk_i2l hx hb hr_p1 (okX12_colour (8, .i2l, 1) (List.mem_of_getElem? (i := 4) rfl)) ?_
    refine lv_lconst (v := lI 0) hx hb (okX12_colour (9, .lconst 0, 1) (List.mem_of_getElem? (i := 5) rfl)) (by decide +kernel) ?_
    refine lv_aload_n hx hb (okX12_colour (10, .aload_n 0, 1) (List.mem_of_getElem? (i := 6) rfl)) rfl (lv_at hl 0 rfl) ?_
    refine sk_ci (sk_runV (a := 158) (C := RX12) (As := []) (rest := [.long (lI 0), .long (lI p1)]) S (c_Mo_length l G hM) sk_blind gX12_colour_X12_length rfl hdX12_length ⟨⟨rfl, rfl⟩, Nat.le_of_ble_eq_true rfl, Nat.le_of_ble_eq_true rfl⟩ (sk_recv hK hw kdn_158 (kd_in kdn_158) (by decide) rfl) (sk_pre hK hw) rfl hl.1 rfl (Nat.le_of_ble_eq_true rfl) (okX12_colour (11, .invokevirtual 297, 3) (List.mem_of_getElem? (i := 7) rfl)) ⟨Nat.zero_le _, Nat.zero_le _⟩) hw (fun r_11 I_11 H locs hr_r_11 hM hw => ?_)
    refine sk_i2l hx hb hr_r_11 (okX12_colour (14, .i2l, 1) (List.mem_of_getElem? (i := 8) rfl)) ?_
    refine sk_ci (sk_runS (As := [.long (lI p1), .long (lI 0), .long (lI r_11)]) (rest := []) S (c_Mo_isIn l G ⟨Int.le_trans (by decide) (hr_p1).1, Int.lt_trans (hr_p1).2 (by decide)⟩ (by decide) ⟨Int.le_trans (by decide) (hr_r_11).1, Int.lt_trans (hr_r_11).2 (by decide)⟩ hM) sk_blind gX12_colour_X12_isIn rfl hdX12_isIn ⟨⟨rfl, rfl⟩, Nat.le_of_ble_eq_true rfl, Nat.le_of_ble_eq_true rfl⟩ (sk_pre hK hw) rfl hl.1 rfl (Nat.le_of_ble_eq_true rfl) (okX12_colour (15, .invokestatic 150, 3) (List.mem_of_getElem? (i := 9) rfl)) ⟨Nat.zero_le _, Nat.zero_le _⟩) hw (fun r_15 I_15 H locs hr_r_15 hM hw => ?_)
    obtain ⟨hb_r_15, hM⟩ := hM
    refine sk_if_ne (tgt := 23) hx hb hr_r_15 (okX12_colour (18, .ifCond .ne 5, 3) (List.mem_of_getElem? (i := 10) rfl)) (by decide) (fun c18 => ?_) (fun c18 => ?_)
    · have hM := hM.1 c18
      refine lv_iconst (v := iI 0) hx hb (okX12_colour (23, .iconst 0, 1) (List.mem_of_getElem? (i := 13) rfl)) rfl ?_
      refine lv_istore_n (lv' := [(2, .int (iI 0)), (0, .ref (sk_ad G 158)), (1, .int (iI p1))]) hx hb (okX12_colour (24, .istore_n 2, 1) (List.mem_of_getElem? (i := 14) rfl)) rfl hl (by decide) rfl (fun ls hl => ?_)
      refine lv_iconst (v := iI 0) hx hb (okX12_colour (25, .iconst 0, 1) (List.mem_of_getElem? (i := 15) rfl)) rfl ?_
      refine lv_istore_n (lv' := [(3, .int (iI 0)), (2, .int (iI 0)), (0, .ref (sk_ad G 158)), (1, .int (iI p1))]) hx hb (okX12_colour (26, .istore_n 3, 1) (List.mem_of_getElem? (i := 16) rfl)) rfl hl (by decide) rfl (fun ls hl => ?_)
      refine lv_iconst (v := iI 0) hx hb (okX12_colour (27, .iconst 0, 1) (List.mem_of_getElem? (i := 17) rfl)) rfl ?_
      refine lv_istore (lv' := [(4, .int (iI 0)), (3, .int (iI 0)), (2, .int (iI 0)), (0, .ref (sk_ad G 158)), (1, .int (iI p1))]) hx hb (okX12_colour (28, .istore 4, 2) (List.mem_of_getElem? (i := 18) rfl)) hl (by decide) rfl (fun ls hl => ?_)
      exact hJ_30 p1 0 0 0 I_15 hr_p1 (by decide) (by decide) (by decide) hM H locs ls hw (lv_sub hl [3, 4, 2, 1, 0] rfl)
    · have hM := hM.2 c18
      refine lv_iconst (v := iI (-1)) hx hb (okX12_colour (21, .iconst (-1), 1) (List.mem_of_getElem? (i := 11) rfl)) rfl ?_
      exact sk_iret hx hb hr0 hlocks hK hw (by decide) hM (okX12_colour (22, .ireturn, 1) (List.mem_of_getElem? (i := 12) rfl))
def rmX12_count : Room := { frames := 0, cells := 0, slots := 0, locals := 0 }
set_option maxHeartbeats 4000000 in
set_option maxRecDepth 100000 in
theorem c_Mo_count (l : Launch) (G : sk_G) {p1 : Int} (hr_p1 : rI p1) {Q : Int → sk_S → Prop} {I : sk_S} (hM : M_Mo_count p1 Q I) : Met l yX12_count wsX12_count rmX12_count (va_Pc [.ref (sk_ad G 158), .int (iI p1)] (sk_U G 198 sk_t I)) (sk_Qi G 198 sk_t Q) 0 0 (sk_A G) := by
  refine Met.ofW (cc := cX12_count) (maxL := 2) (ret := (some .int)) (by decide) rfl ?_
  intro p e s m args below meth c s₁ B hml hv
  obtain ⟨rfl, hU, hK⟩ := hv
  have hx := B.exec
  have hb := B.bytes
  have hr0 := B.returns
  have hts := atoms_spec (ws := wsX12_count) B.pre
  have hown : s.vm.findClass RX12 = some m.cls := findClass_of_methodNamed B.named
  have hlocks := B.notSynchronized
  have S : CallFix p m c cX12_count 2 s ([.ref (sk_ad G 158), .int (iI p1)].toArray) wsX12_count RX12 := ⟨hx, hb, hml, hown, hts⟩
  have hL0 := hts (.fieldLink RX12 140 "SkyLightsModel" "flyers" "I") (by decide +kernel)
  have hL1 := hts (.fieldLink RX12 143 "SkyLightsModel" "figures" "I") (by decide +kernel)
  have hL2 := hts (.fieldLink RX12 156 "SkyLightsModel" "scenes" "I") (by decide +kernel)
  have hL3 := hts (.fieldLink RX12 305 "SkyLightsModel" "marks" "I") (by decide +kernel)
  have hL4 := hts (.fieldLink RX12 161 "SkyLightsModel" "taped" "I") (by decide +kernel)
  have hL5 := hts (.fieldLink RX12 34 "SkyLightsModel" "gap" "I") (by decide +kernel)
  have hL6 := hts (.fieldLink RX12 110 "SkyLightsModel" "margin" "I") (by decide +kernel)
  have hI12 : ∀ w ∈ u_ws RX12 TX12 53, w ∈ wsX12_count := by decide +kernel
  have hw : sk_W G 198 sk_t I s s.heap [] := ⟨hU, va_S.rf⟩
  have hl := lv_entry ([.ref (sk_ad G 158), .int (iI p1)]) (n := 2) (Nat.le_of_ble_eq_true rfl)
  rw [lg_entry_eq]
  generalize (lg_sl ([.ref (sk_ad G 158), .int (iI p1)]) ++ List.replicate (2 - (lg_sl ([.ref (sk_ad G 158), .int (iI p1)])).length) Slot.unset).toArray = ls at hl ⊢
  have hl : lv_has ls 2 [(0, .ref (sk_ad G 158)), (1, .int (iI p1))] := hl
  suffices hgo : ∀ (H : Heap) (locs : List Loc), sk_W G 198 sk_t I s H locs → W p l e (headSpec wsX12_count rmX12_count).room s m ([.ref (sk_ad G 158), .int (iI p1)].toArray) below meth c H locs 0 0 (MQ below (sk_Qi G 198 sk_t Q) ([.ref (sk_ad G 158), .int (iI p1)].toArray) s 0 0 (sk_A G)) (F0 m 0 ls []) from hgo _ _ hw
  unfold M_Mo_count at hM
  intro H locs hw
  refine lv_iload_n hx hb (okX12_count (0, .iload_n 1, 1) (List.mem_of_getElem? (i := 0) rfl)) rfl (lv_at hl 1 rfl) ?_
  rcases (show (p1 < 0 ∨ 6 < p1) ∨ p1 = 0 ∨ p1 = 1 ∨ p1 = 2 ∨ p1 = 3 ∨ p1 = 4 ∨ p1 = 5 ∨ p1 = 6 by omega) with c1 | c1 | c1 | c1 | c1 | c1 | c1 | c1
  · have hM := hM.1 c1
    refine sk_tabOut (tgt := 79) hx hb hr_p1 c1 (okX12_count (1, .tableswitch 78 0 6 #[43, 48, 53, 58, 63, 68, 73], 43) (List.mem_of_getElem? (i := 1) rfl)) (by decide) ?_
    refine lv_iconst (v := iI (-1)) hx hb (okX12_count (79, .iconst (-1), 1) (List.mem_of_getElem? (i := 23) rfl)) rfl ?_
    exact sk_iret hx hb hr0 hlocks hK hw (by decide) hM (okX12_count (80, .ireturn, 1) (List.mem_of_getElem? (i := 24) rfl))
  · have hM := hM.2.1 c1
    refine sk_tabIn (tgt := 44) (off := 43) hx hb hr_p1 (by rw [c1]; decide) (by rw [c1]; rfl) (okX12_count (1, .tableswitch 78 0 6 #[43, 48, 53, 58, 63, 68, 73], 43) (List.mem_of_getElem? (i := 1) rfl)) (by decide) ?_
    refine lv_aload_n hx hb (okX12_count (44, .aload_n 0, 1) (List.mem_of_getElem? (i := 2) rfl)) rfl (lv_at hl 0 rfl) ?_
    have hr1 := hw.1.2.2 158 8
    refine sk_geti S hK hw kdn_158 (kd_in kdn_158) (C := RX12) (T := TX12) (N := 53) rfl hI12 8 ⟨by decide, rfl, by decide, rfl⟩ rfl (k' := 8) rfl hL0 (okX12_count (45, .getfield 140, 3) (List.mem_of_getElem? (i := 3) rfl)) ?_
    exact sk_iret hx hb hr0 hlocks hK hw hr1 hM (okX12_count (48, .ireturn, 1) (List.mem_of_getElem? (i := 4) rfl))
  · have hM := hM.2.2.1 c1
    refine sk_tabIn (tgt := 49) (off := 48) hx hb hr_p1 (by rw [c1]; decide) (by rw [c1]; rfl) (okX12_count (1, .tableswitch 78 0 6 #[43, 48, 53, 58, 63, 68, 73], 43) (List.mem_of_getElem? (i := 1) rfl)) (by decide) ?_
    refine lv_aload_n hx hb (okX12_count (49, .aload_n 0, 1) (List.mem_of_getElem? (i := 5) rfl)) rfl (lv_at hl 0 rfl) ?_
    have hr2 := hw.1.2.2 158 9
    refine sk_geti S hK hw kdn_158 (kd_in kdn_158) (C := RX12) (T := TX12) (N := 53) rfl hI12 9 ⟨by decide, rfl, by decide, rfl⟩ rfl (k' := 9) rfl hL1 (okX12_count (50, .getfield 143, 3) (List.mem_of_getElem? (i := 6) rfl)) ?_
    exact sk_iret hx hb hr0 hlocks hK hw hr2 hM (okX12_count (53, .ireturn, 1) (List.mem_of_getElem? (i := 7) rfl))
  · have hM := hM.2.2.2.1 c1
    refine sk_tabIn (tgt := 54) (off := 53) hx hb hr_p1 (by rw [c1]; decide) (by rw [c1]; rfl) (okX12_count (1, .tableswitch 78 0 6 #[43, 48, 53, 58, 63, 68, 73], 43) (List.mem_of_getElem? (i := 1) rfl)) (by decide) ?_
    refine lv_aload_n hx hb (okX12_count (54, .aload_n 0, 1) (List.mem_of_getElem? (i := 8) rfl)) rfl (lv_at hl 0 rfl) ?_
    have hr3 := hw.1.2.2 158 41
    refine sk_geti S hK hw kdn_158 (kd_in kdn_158) (C := RX12) (T := TX12) (N := 53) rfl hI12 41 ⟨by decide, rfl, by decide, rfl⟩ rfl (k' := 41) rfl hL2 (okX12_count (55, .getfield 156, 3) (List.mem_of_getElem? (i := 9) rfl)) ?_
    exact sk_iret hx hb hr0 hlocks hK hw hr3 hM (okX12_count (58, .ireturn, 1) (List.mem_of_getElem? (i := 10) rfl))
  · have hM := hM.2.2.2.2.1 c1
    refine sk_tabIn (tgt := 59) (off := 58) hx hb hr_p1 (by rw [c1]; decide) (by rw [c1]; rfl) (okX12_count (1, .tableswitch 78 0 6 #[43, 48, 53, 58, 63, 68, 73], 43) (List.mem_of_getElem? (i := 1) rfl)) (by decide) ?_
    refine lv_aload_n hx hb (okX12_count (59, .aload_n 0, 1) (List.mem_of_getElem? (i := 11) rfl)) rfl (lv_at hl 0 rfl) ?_
    have hr4 := hw.1.2.2 158 48
    refine sk_geti S hK hw kdn_158 (kd_in kdn_158) (C := RX12) (T := TX12) (N := 53) rfl hI12 48 ⟨by decide, rfl, by decide, rfl⟩ rfl (k' := 48) rfl hL3 (okX12_count (60, .getfield 305, 3) (List.mem_of_getElem? (i := 12) rfl)) ?_
    exact sk_iret hx hb hr0 hlocks hK hw hr4 hM (okX12_count (63, .ireturn, 1) (List.mem_of_getElem? (i := 13) rfl))
  · have hM := hM.2.2.2.2.2.1 c1
    refine sk_tabIn (tgt := 64) (off := 63) hx hb hr_p1 (by rw [c1]; decide) (by rw [c1]; rfl) (okX12_count (1, .tableswitch 78 0 6 #[43, 48, 53, 58, 63, 68, 73], 43) (List.mem_of_getElem? (i := 1) rfl)) (by decide) ?_
    refine lv_aload_n hx hb (okX12_count (64, .aload_n 0, 1) (List.mem_of_getElem? (i := 14) rfl)) rfl (lv_at hl 0 rfl) ?_
    have hr5 := hw.1.2.2 158 15
    refine sk_geti S hK hw kdn_158 (kd_in kdn_158) (C := RX12) (T := TX12) (N := 53) rfl hI12 15 ⟨by decide, rfl, by decide, rfl⟩ rfl (k' := 15) rfl hL4 (okX12_count (65, .getfield 161, 3) (List.mem_of_getElem? (i := 15) rfl)) ?_
    exact sk_iret hx hb hr0 hlocks hK hw hr5 hM (okX12_count (68, .ireturn, 1) (List.mem_of_getElem? (i := 16) rfl))
  · have hM := hM.2.2.2.2.2.2.1 c1
    refine sk_tabIn (tgt := 69) (off := 68) hx hb hr_p1 (by rw [c1]; decide) (by rw [c1]; rfl) (okX12_count (1, .tableswitch 78 0 6 #[43, 48, 53, 58, 63, 68, 73], 43) (List.mem_of_getElem? (i := 1) rfl)) (by decide) ?_
    refine lv_aload_n hx hb (okX12_count (69, .aload_n 0, 1) (List.mem_of_getElem? (i := 17) rfl)) rfl (lv_at hl 0 rfl) ?_
    have hr6 := hw.1.2.2 158 10
    refine sk_geti S hK hw kdn_158 (kd_in kdn_158) (C := RX12) (T := TX12) (N := 53) rfl hI12 10 ⟨by decide, rfl, by decide, rfl⟩ rfl (k' := 10) rfl hL5 (okX12_count (70, .getfield 34, 3) (List.mem_of_getElem? (i := 18) rfl)) ?_
    exact sk_iret hx hb hr0 hlocks hK hw hr6 hM (okX12_count (73, .ireturn, 1) (List.mem_of_getElem? (i := 19) rfl))
  · have hM := hM.2.2.2.2.2.2.2 c1
    refine sk_tabIn (tgt := 74) (off := 73) hx hb hr_p1 (by rw [c1]; decide) (by rw [c1]; rfl) (okX12_count (1, .tableswitch 78 0 6 #[43, 48, 53, 58, 63, 68, 73], 43) (List.mem_of_getElem? (i := 1) rfl)) (by decide) ?_
    refine lv_aload_n hx hb (okX12_count (74, .aload_n 0, 1) (List.mem_of_getElem? (i := 20) rfl)) rfl (lv_at hl 0 rfl) ?_
    have hr7 := hw.1.2.2 158 42
    refine sk_geti S hK hw kdn_158 (kd_in kdn_158) (C := RX12) (T := TX12) (N := 53) rfl hI12 42 ⟨by decide, rfl, by decide, rfl⟩ rfl (k' := 42) rfl hL6 (okX12_count (75, .getfield 110, 3) (List.mem_of_getElem? (i := 21) rfl)) ?_
    exact sk_iret hx hb hr0 hlocks hK hw hr7 hM (okX12_count (78, .ireturn, 1) (List.mem_of_getElem? (i := 22) rfl))
def rmX12_cut : Room := { frames := 0, cells := 0, slots := 0, locals := 0 }
set_option maxHeartbeats 4000000 in
set_option maxRecDepth 100000 in
theorem c_Mo_cut (l : Launch) (G : sk_G) {Q : Int → sk_S → Prop} {I : sk_S} (hM : M_Mo_cut Q I) : Met l yX12_cut wsX12_cut rmX12_cut (va_Pc [.ref (sk_ad G 158)] (sk_U G 198 sk_t I)) (sk_Qi G 198 sk_t Q) 0 0 (sk_A G) := by
  refine Met.ofW (cc := cX12_cut) (maxL := 1) (ret := (some .int)) (by decide) rfl ?_
  intro p e s m args below meth c s₁ B hml hv
  obtain ⟨rfl, hU, hK⟩ := hv
  have hx := B.exec
  have hb := B.bytes
  have hr0 := B.returns
  have hts := atoms_spec (ws := wsX12_cut) B.pre
  have hown : s.vm.findClass RX12 = some m.cls := findClass_of_methodNamed B.named
  have hlocks := B.notSynchronized
  have S : CallFix p m c cX12_cut 1 s ([.ref (sk_ad G 158)].toArray) wsX12_cut RX12 := ⟨hx, hb, hml, hown, hts⟩
  have hL0 := hts (.fieldLink RX12 156 "SkyLightsModel" "scenes" "I") (by decide +kernel)
  have hI12 : ∀ w ∈ u_ws RX12 TX12 53, w ∈ wsX12_cut := by decide +kernel
  have hw : sk_W G 198 sk_t I s s.heap [] := ⟨hU, va_S.rf⟩
  have hl := lv_entry ([.ref (sk_ad G 158)]) (n := 1) (Nat.le_of_ble_eq_true rfl)
  rw [lg_entry_eq]
  generalize (lg_sl ([.ref (sk_ad G 158)]) ++ List.replicate (1 - (lg_sl ([.ref (sk_ad G 158)])).length) Slot.unset).toArray = ls at hl ⊢
  have hl : lv_has ls 1 [(0, .ref (sk_ad G 158))] := hl
  suffices hgo : ∀ (H : Heap) (locs : List Loc), sk_W G 198 sk_t I s H locs → W p l e (headSpec wsX12_cut rmX12_cut).room s m ([.ref (sk_ad G 158)].toArray) below meth c H locs 0 0 (MQ below (sk_Qi G 198 sk_t Q) ([.ref (sk_ad G 158)].toArray) s 0 0 (sk_A G)) (F0 m 0 ls []) from hgo _ _ hw
  unfold M_Mo_cut at hM
  intro H locs hw
  refine lv_aload_n hx hb (okX12_cut (0, .aload_n 0, 1) (List.mem_of_getElem? (i := 0) rfl)) rfl (lv_at hl 0 rfl) ?_
  have hr1 := hw.1.2.2 158 41
  refine sk_geti S hK hw kdn_158 (kd_in kdn_158) (C := RX12) (T := TX12) (N := 53) rfl hI12 41 ⟨by decide, rfl, by decide, rfl⟩ rfl (k' := 41) rfl hL0 (okX12_cut (1, .getfield 156, 3) (List.mem_of_getElem? (i := 1) rfl)) ?_
  refine sk_if_ne (tgt := 10) hx hb hr1 (okX12_cut (4, .ifCond .ne 6, 3) (List.mem_of_getElem? (i := 2) rfl)) (by decide) (fun c4 => ?_) (fun c4 => ?_)
  · have hM := hM.1 c4
    refine lv_aload_n hx hb (okX12_cut (10, .aload_n 0, 1) (List.mem_of_getElem? (i := 5) rfl)) rfl (lv_at hl 0 rfl) ?_
    refine lv_dup hx hb (okX12_cut (11, .dup, 1) (List.mem_of_getElem? (i := 6) rfl)) rfl ?_
    have hr2 := hw.1.2.2 158 41
    refine sk_geti S hK hw kdn_158 (kd_in kdn_158) (C := RX12) (T := TX12) (N := 53) rfl hI12 41 ⟨by decide, rfl, by decide, rfl⟩ rfl (k' := 41) rfl hL0 (okX12_cut (12, .getfield 156, 3) (List.mem_of_getElem? (i := 7) rfl)) ?_
    refine lv_iconst (v := iI 1) hx hb (okX12_cut (15, .iconst 1, 1) (List.mem_of_getElem? (i := 8) rfl)) rfl ?_
    refine sk_isub hx hb (okX12_cut (16, .isub, 1) (List.mem_of_getElem? (i := 9) rfl)) ?_
    obtain ⟨hr3, hM⟩ := hM
    refine sk_put S hK hw kdn_158 (kd_in kdn_158) (C := RX12) (T := TX12) (N := 53) rfl hI12 tyX12 tyX12_ok nmX12 41 ⟨by decide, rfl, by decide, rfl⟩ rfl rfl (k' := 41) rfl hr3 ⟨rfl, rfl⟩ hL0 (okX12_cut (17, .putfield 156, 3) (List.mem_of_getElem? (i := 10) rfl)) (fun H locs hw => ?_)
    refine lv_aload_n hx hb (okX12_cut (20, .aload_n 0, 1) (List.mem_of_getElem? (i := 11) rfl)) rfl (lv_at hl 0 rfl) ?_
    have hr4 := hw.1.2.2 158 41
    refine sk_geti S hK hw kdn_158 (kd_in kdn_158) (C := RX12) (T := TX12) (N := 53) rfl hI12 41 ⟨by decide, rfl, by decide, rfl⟩ rfl (k' := 41) rfl hL0 (okX12_cut (21, .getfield 156, 3) (List.mem_of_getElem? (i := 12) rfl)) ?_
    exact sk_iret hx hb hr0 hlocks hK hw hr4 hM (okX12_cut (24, .ireturn, 1) (List.mem_of_getElem? (i := 13) rfl))
  · have hM := hM.2 c4
    refine lv_bipush (v := iI (-3)) hx hb (okX12_cut (7, .bipush (-3), 2) (List.mem_of_getElem? (i := 3) rfl)) (by decide +kernel) ?_
    exact sk_iret hx hb hr0 hlocks hK hw (by decide) hM (okX12_cut (9, .ireturn, 1) (List.mem_of_getElem? (i := 4) rfl))
def rmX12_delay : Room := { frames := 1, cells := 0, slots := 0, locals := 57 }
set_option maxHeartbeats 4000000 in
set_option maxRecDepth 100000 in
theorem c_Mo_delay (l : Launch) (G : sk_G) {p1 p2 : Int} (hr_p1 : rI p1) (hr_p2 : rI p2) {Q : Int → sk_S → Prop} {I : sk_S} (hM : M_Mo_delay p1 p2 Q I) : Met l yX12_delay wsX12_delay rmX12_delay (va_Pc [.ref (sk_ad G 158), .int (iI p1), .int (iI p2)] (sk_U G 198 sk_t I)) (sk_Qi G 198 sk_t Q) 0 0 (sk_A G) := by
  refine Met.ofW (cc := cX12_delay) (maxL := 4) (ret := (some .int)) (by decide) rfl ?_
  intro p e s m args below meth c s₁ B hml hv
  obtain ⟨rfl, hU, hK⟩ := hv
  have hx := B.exec
  have hb := B.bytes
  have hr0 := B.returns
  have hts := atoms_spec (ws := wsX12_delay) B.pre
  have hown : s.vm.findClass RX12 = some m.cls := findClass_of_methodNamed B.named
  have hlocks := B.notSynchronized
  have S : CallFix p m c cX12_delay 4 s ([.ref (sk_ad G 158), .int (iI p1), .int (iI p2)].toArray) wsX12_delay RX12 := ⟨hx, hb, hml, hown, hts⟩
  have hL0 := hts (.constantLong RX12 263 (9)) (by decide +kernel)
  have hL1 := hts (.fieldLink RX12 59 "SkyLightsModel" "wait" "[I") (by decide +kernel)
  have hI12 : ∀ w ∈ u_ws RX12 TX12 53, w ∈ wsX12_delay := by decide +kernel
  have hw : sk_W G 198 sk_t I s s.heap [] := ⟨hU, va_S.rf⟩
  have hl := lv_entry ([.ref (sk_ad G 158), .int (iI p1), .int (iI p2)]) (n := 4) (Nat.le_of_ble_eq_true rfl)
  rw [lg_entry_eq]
  generalize (lg_sl ([.ref (sk_ad G 158), .int (iI p1), .int (iI p2)]) ++ List.replicate (4 - (lg_sl ([.ref (sk_ad G 158), .int (iI p1), .int (iI p2)])).length) Slot.unset).toArray = ls at hl ⊢
  have hl : lv_has ls 4 [(0, .ref (sk_ad G 158)), (1, .int (iI p1)), (2, .int (iI p2))] := hl
  suffices hgo : ∀ (H : Heap) (locs : List Loc), sk_W G 198 sk_t I s H locs → W p l e (headSpec wsX12_delay rmX12_delay).room s m ([.ref (sk_ad G 158), .int (iI p1), .int (iI p2)].toArray) below meth c H locs 0 0 (MQ below (sk_Qi G 198 sk_t Q) ([.ref (sk_ad G 158), .int (iI p1), .int (iI p2)].toArray) s 0 0 (sk_A G)) (F0 m 0 ls []) from hgo _ _ hw
  unfold M_Mo_delay at hM
  intro H locs hw
  refine lv_aload_n hx hb (okX12_delay (0, .aload_n 0, 1) (List.mem_of_getElem? (i := 0) rfl)) rfl (lv_at hl 0 rfl) ?_
  refine lv_iload_n hx hb (okX12_delay (1, .iload_n 1, 1) (List.mem_of_getElem? (i := 1) rfl)) rfl (lv_at hl 1 rfl) ?_
  refine sk_ci (sk_runV (a := 158) (C := RX12) (As := [.int (iI p1)]) (rest := []) S (c_Mo_isOfPass l G hr_p1 hM) sk_blind gX12_delay_X12_isOfPass rfl hdX12_isOfPass ⟨⟨rfl, rfl⟩, Nat.le_of_ble_eq_true rfl, Nat.le_of_ble_eq_true rfl⟩ (sk_recv hK hw kdn_158 (kd_in kdn_158) (by decide) rfl) (sk_pre hK hw) rfl hl.1 rfl (Nat.le_of_ble_eq_true rfl) (okX12_delay (2, .invokevirtual 260, 3) (List.mem_of_getElem? (i := 2) rfl)) ⟨Nat.zero_le _, Nat.zero_le _⟩) hw (fun r_2 I_2 H locs hr_r_2 hM hw => ?_)
  obtain ⟨hb_r_2, hM⟩ := hM
  refine sk_if_ne (tgt := 10) hx hb hr_r_2 (okX12_delay (5, .ifCond .ne 5, 3) (List.mem_of_getElem? (i := 3) rfl)) (by decide) (fun c5 => ?_) (fun c5 => ?_)
  · have hM := hM.1 c5
    refine lv_iload_n hx hb (okX12_delay (10, .iload_n 2, 1) (List.mem_of_getElem? (i := 6) rfl)) rfl (lv_at hl 2 rfl) ?_
    refine sk_i2l hx hb hr_p2 (okX12_delay (11, .i2l, 1) (List.mem_of_getElem? (i := 7) rfl)) ?_
    refine lv_lconst (v := lI 0) hx hb (okX12_delay (12, .lconst 0, 1) (List.mem_of_getElem? (i := 8) rfl)) (by decide +kernel) ?_
    refine lv_ldc2 (v := lI 9) hx hb hown (by rw [show lI 9 = (9 : Int64) from by decide +kernel]; exact hL0) (okX12_delay (13, .ldc2_w 263, 3) (List.mem_of_getElem? (i := 9) rfl)) ?_
    refine sk_ci (sk_runS (As := [.long (lI p2), .long (lI 0), .long (lI 9)]) (rest := []) S (c_Mo_isIn l G ⟨Int.le_trans (by decide) (hr_p2).1, Int.lt_trans (hr_p2).2 (by decide)⟩ (by decide) (by decide) hM) sk_blind gX12_delay_X12_isIn rfl hdX12_isIn ⟨⟨rfl, rfl⟩, Nat.le_of_ble_eq_true rfl, Nat.le_of_ble_eq_true rfl⟩ (sk_pre hK hw) rfl hl.1 rfl (Nat.le_of_ble_eq_true rfl) (okX12_delay (16, .invokestatic 150, 3) (List.mem_of_getElem? (i := 10) rfl)) ⟨Nat.zero_le _, Nat.zero_le _⟩) hw (fun r_16 I_16 H locs hr_r_16 hM hw => ?_)
    obtain ⟨hb_r_16, hM⟩ := hM
    refine sk_if_ne (tgt := 25) hx hb hr_r_16 (okX12_delay (19, .ifCond .ne 6, 3) (List.mem_of_getElem? (i := 11) rfl)) (by decide) (fun c19 => ?_) (fun c19 => ?_)
    · have hM := hM.1 c19
      refine lv_aload_n hx hb (okX12_delay (25, .aload_n 0, 1) (List.mem_of_getElem? (i := 14) rfl)) rfl (lv_at hl 0 rfl) ?_
      refine sk_getr (b := 174) S hK hw kdn_158 (kd_in kdn_158) (C := RX12) (T := TX12) (N := 53) rfl hI12 24 ⟨by decide, rfl, by decide, rfl⟩ rfl (k' := 24) rfl rfl (by decide +kernel) hL1 (okX12_delay (26, .getfield 59, 3) (List.mem_of_getElem? (i := 15) rfl)) ?_
      refine lv_iload_n hx hb (okX12_delay (29, .iload_n 1, 1) (List.mem_of_getElem? (i := 16) rfl)) rfl (lv_at hl 1 rfl) ?_
      obtain ⟨hi1, hM⟩ := hM
      have hr2 := hw.1.2.2 174 p1
      refine sk_ild S hK hw kdn_174 (kd_in kdn_174) (by rw [lnn_174]; exact hi1) (okX12_delay (30, .iaload, 1) (List.mem_of_getElem? (i := 17) rfl)) ?_
      refine sk_nm (fun v3_31 ev3_31 => ?_)
      have hM := hM v3_31 ev3_31
      have hr_v3_31 : rI v3_31 := by rw [ev3_31]; exact hr2
      refine lv_istore_n (lv' := [(3, .int (iI v3_31)), (0, .ref (sk_ad G 158)), (1, .int (iI p1)), (2, .int (iI p2))]) hx hb (okX12_delay (31, .istore_n 3, 1) (List.mem_of_getElem? (i := 18) rfl)) rfl hl (by decide) rfl (fun ls hl => ?_)
      refine lv_aload_n hx hb (okX12_delay (32, .aload_n 0, 1) (List.mem_of_getElem? (i := 19) rfl)) rfl (lv_at hl 1 rfl) ?_
      refine sk_getr (b := 174) S hK hw kdn_158 (kd_in kdn_158) (C := RX12) (T := TX12) (N := 53) rfl hI12 24 ⟨by decide, rfl, by decide, rfl⟩ rfl (k' := 24) rfl rfl (by decide +kernel) hL1 (okX12_delay (33, .getfield 59, 3) (List.mem_of_getElem? (i := 20) rfl)) ?_
      refine lv_iload_n hx hb (okX12_delay (36, .iload_n 1, 1) (List.mem_of_getElem? (i := 21) rfl)) rfl (lv_at hl 2 rfl) ?_
      refine lv_iload_n hx hb (okX12_delay (37, .iload_n 2, 1) (List.mem_of_getElem? (i := 22) rfl)) rfl (lv_at hl 3 rfl) ?_
      obtain ⟨hi3, hM⟩ := hM
      refine sk_ist S hK hw kdn_174 (kd_in kdn_174) (by rw [lnn_174]; exact hi3) hr_p2 (okX12_delay (38, .iastore, 1) (List.mem_of_getElem? (i := 23) rfl)) (fun H locs hw => ?_)
      refine lv_iload_n hx hb (okX12_delay (39, .iload_n 3, 1) (List.mem_of_getElem? (i := 24) rfl)) rfl (lv_at hl 0 rfl) ?_
      exact sk_iret hx hb hr0 hlocks hK hw hr_v3_31 hM (okX12_delay (40, .ireturn, 1) (List.mem_of_getElem? (i := 25) rfl))
    · have hM := hM.2 c19
      refine lv_bipush (v := iI (-2)) hx hb (okX12_delay (22, .bipush (-2), 2) (List.mem_of_getElem? (i := 12) rfl)) (by decide +kernel) ?_
      exact sk_iret hx hb hr0 hlocks hK hw (by decide) hM (okX12_delay (24, .ireturn, 1) (List.mem_of_getElem? (i := 13) rfl))
  · have hM := hM.2 c5
    refine lv_iconst (v := iI (-1)) hx hb (okX12_delay (8, .iconst (-1), 1) (List.mem_of_getElem? (i := 4) rfl)) rfl ?_
    exact sk_iret hx hb hr0 hlocks hK hw (by decide) hM (okX12_delay (9, .ireturn, 1) (List.mem_of_getElem? (i := 5) rfl))
def rmX12_enters_ : Room := { frames := 3, cells := 0, slots := 0, locals := 169 }
set_option maxHeartbeats 4000000 in
set_option maxRecDepth 100000 in
theorem c_Mo_enters_ (l : Launch) (G : sk_G) {p1 : Int} (hr_p1 : rI p1) {Q : Int → sk_S → Prop} {I : sk_S} (hM : M_Mo_enters_ p1 Q I) : Met l yX12_enters_ wsX12_enters_ rmX12_enters_ (va_Pc [.ref (sk_ad G 158), .int (iI p1)] (sk_U G 198 sk_t I)) (sk_Qi G 198 sk_t Q) 0 0 (sk_A G) := by
  refine Met.ofW (cc := cX12_enters_) (maxL := 2) (ret := (some .int)) (by decide) rfl ?_
  intro p e s m args below meth c s₁ B hml hv
  obtain ⟨rfl, hU, hK⟩ := hv
  have hx := B.exec
  have hb := B.bytes
  have hr0 := B.returns
  have hts := atoms_spec (ws := wsX12_enters_) B.pre
  have hown : s.vm.findClass RX12 = some m.cls := findClass_of_methodNamed B.named
  have hlocks := B.notSynchronized
  have S : CallFix p m c cX12_enters_ 2 s ([.ref (sk_ad G 158), .int (iI p1)].toArray) wsX12_enters_ RX12 := ⟨hx, hb, hml, hown, hts⟩
  have hL0 := hts (.fieldLink RX12 62 "SkyLightsModel" "ticksOf" "[I") (by decide +kernel)
  have hI12 : ∀ w ∈ u_ws RX12 TX12 53, w ∈ wsX12_enters_ := by decide +kernel
  have hw : sk_W G 198 sk_t I s s.heap [] := ⟨hU, va_S.rf⟩
  have hl := lv_entry ([.ref (sk_ad G 158), .int (iI p1)]) (n := 2) (Nat.le_of_ble_eq_true rfl)
  rw [lg_entry_eq]
  generalize (lg_sl ([.ref (sk_ad G 158), .int (iI p1)]) ++ List.replicate (2 - (lg_sl ([.ref (sk_ad G 158), .int (iI p1)])).length) Slot.unset).toArray = ls at hl ⊢
  have hl : lv_has ls 2 [(0, .ref (sk_ad G 158)), (1, .int (iI p1))] := hl
  suffices hgo : ∀ (H : Heap) (locs : List Loc), sk_W G 198 sk_t I s H locs → W p l e (headSpec wsX12_enters_ rmX12_enters_).room s m ([.ref (sk_ad G 158), .int (iI p1)].toArray) below meth c H locs 0 0 (MQ below (sk_Qi G 198 sk_t Q) ([.ref (sk_ad G 158), .int (iI p1)].toArray) s 0 0 (sk_A G)) (F0 m 0 ls []) from hgo _ _ hw
  unfold M_Mo_enters_ at hM
  intro H locs hw
  refine lv_aload_n hx hb (okX12_enters_ (0, .aload_n 0, 1) (List.mem_of_getElem? (i := 0) rfl)) rfl (lv_at hl 0 rfl) ?_
  refine lv_iload_n hx hb (okX12_enters_ (1, .iload_n 1, 1) (List.mem_of_getElem? (i := 1) rfl)) rfl (lv_at hl 1 rfl) ?_
  refine sk_ci (sk_runV (a := 158) (C := RX12) (As := [.int (iI p1)]) (rest := []) S (c_Mo_isOfPass l G hr_p1 hM) sk_blind gX12_enters__X12_isOfPass rfl hdX12_isOfPass ⟨⟨rfl, rfl⟩, Nat.le_of_ble_eq_true rfl, Nat.le_of_ble_eq_true rfl⟩ (sk_recv hK hw kdn_158 (kd_in kdn_158) (by decide) rfl) (sk_pre hK hw) rfl hl.1 rfl (Nat.le_of_ble_eq_true rfl) (okX12_enters_ (2, .invokevirtual 260, 3) (List.mem_of_getElem? (i := 2) rfl)) ⟨Nat.zero_le _, Nat.zero_le _⟩) hw (fun r_2 I_2 H locs hr_r_2 hM hw => ?_)
  obtain ⟨hb_r_2, hM⟩ := hM
  refine sk_if_ne (tgt := 12) hx hb hr_r_2 (okX12_enters_ (5, .ifCond .ne 7, 3) (List.mem_of_getElem? (i := 3) rfl)) (by decide) (fun c5 => ?_) (fun c5 => ?_)
  · have hM := hM.1 c5
    refine lv_aload_n hx hb (okX12_enters_ (12, .aload_n 0, 1) (List.mem_of_getElem? (i := 6) rfl)) rfl (lv_at hl 0 rfl) ?_
    refine lv_iload_n hx hb (okX12_enters_ (13, .iload_n 1, 1) (List.mem_of_getElem? (i := 7) rfl)) rfl (lv_at hl 1 rfl) ?_
    refine lv_aload_n hx hb (okX12_enters_ (14, .aload_n 0, 1) (List.mem_of_getElem? (i := 8) rfl)) rfl (lv_at hl 0 rfl) ?_
    refine sk_getr (b := 175) S hK hw kdn_158 (kd_in kdn_158) (C := RX12) (T := TX12) (N := 53) rfl hI12 25 ⟨by decide, rfl, by decide, rfl⟩ rfl (k' := 25) rfl rfl (by decide +kernel) hL0 (okX12_enters_ (15, .getfield 62, 3) (List.mem_of_getElem? (i := 9) rfl)) ?_
    refine lv_iconst (v := iI 0) hx hb (okX12_enters_ (18, .iconst 0, 1) (List.mem_of_getElem? (i := 10) rfl)) rfl ?_
    obtain ⟨hi1, hM⟩ := hM
    have hr2 := hw.1.2.2 175 0
    refine sk_ild S hK hw kdn_175 (kd_in kdn_175) (by rw [lnn_175]; exact hi1) (okX12_enters_ (19, .iaload, 1) (List.mem_of_getElem? (i := 11) rfl)) ?_
    refine sk_ci (sk_runV (a := 158) (C := RX12) (As := [.int (iI p1), .int (iI (I_2 175 0))]) (rest := []) S (c_Mo_enters l G hr_p1 hr2 hM) sk_blind gX12_enters__X12_enters rfl hdX12_enters ⟨⟨rfl, rfl⟩, Nat.le_of_ble_eq_true rfl, Nat.le_of_ble_eq_true rfl⟩ (sk_recv hK hw kdn_158 (kd_in kdn_158) (by decide) rfl) (sk_pre hK hw) rfl hl.1 rfl (Nat.le_of_ble_eq_true rfl) (okX12_enters_ (20, .invokevirtual 236, 3) (List.mem_of_getElem? (i := 12) rfl)) ⟨Nat.zero_le _, Nat.zero_le _⟩) hw (fun r_20 I_20 H locs hr_r_20 hM hw => ?_)
    obtain ⟨hb_r_20, hM⟩ := hM
    refine sk_if_eq (tgt := 30) hx hb hr_r_20 (okX12_enters_ (23, .ifCond .eq 7, 3) (List.mem_of_getElem? (i := 13) rfl)) (by decide) (fun c23 => ?_) (fun c23 => ?_)
    · have hM := hM.1 c23
      refine lv_iconst (v := iI 0) hx hb (okX12_enters_ (30, .iconst 0, 1) (List.mem_of_getElem? (i := 16) rfl)) rfl ?_
      exact sk_iret hx hb hr0 hlocks hK hw (by decide) hM (okX12_enters_ (31, .ireturn, 1) (List.mem_of_getElem? (i := 17) rfl))
    · have hM := hM.2 c23
      refine lv_iconst (v := iI 1) hx hb (okX12_enters_ (26, .iconst 1, 1) (List.mem_of_getElem? (i := 14) rfl)) rfl ?_
      refine lv_goto (tgt := 31) hx hb (okX12_enters_ (27, .goto 4, 3) (List.mem_of_getElem? (i := 15) rfl)) (by decide) ?_
      exact sk_iret hx hb hr0 hlocks hK hw (by decide) hM (okX12_enters_ (31, .ireturn, 1) (List.mem_of_getElem? (i := 17) rfl))
  · have hM := hM.2 c5
    refine lv_iconst (v := iI (-1)) hx hb (okX12_enters_ (8, .iconst (-1), 1) (List.mem_of_getElem? (i := 4) rfl)) rfl ?_
    refine lv_goto (tgt := 31) hx hb (okX12_enters_ (9, .goto 22, 3) (List.mem_of_getElem? (i := 5) rfl)) (by decide) ?_
    exact sk_iret hx hb hr0 hlocks hK hw (by decide) hM (okX12_enters_ (31, .ireturn, 1) (List.mem_of_getElem? (i := 17) rfl))
def rmX12_isFlyer : Room := { frames := 0, cells := 0, slots := 0, locals := 0 }
set_option maxHeartbeats 4000000 in
set_option maxRecDepth 100000 in
theorem c_Mo_isFlyer (l : Launch) (G : sk_G) {p1 : Int} (hr_p1 : rI p1) {Q : Int → sk_S → Prop} {I : sk_S} (hM : M_Mo_isFlyer p1 Q I) : Met l yX12_isFlyer wsX12_isFlyer rmX12_isFlyer (va_Pc [.ref (sk_ad G 158), .int (iI p1)] (sk_U G 198 sk_t I)) (sk_Qz G 198 sk_t Q) 0 0 (sk_A G) := by
  refine Met.ofW (cc := cX12_isFlyer) (maxL := 2) (ret := (some .boolean)) (by decide) rfl ?_
  intro p e s m args below meth c s₁ B hml hv
  obtain ⟨rfl, hU, hK⟩ := hv
  have hx := B.exec
  have hb := B.bytes
  have hr0 := B.returns
  have hts := atoms_spec (ws := wsX12_isFlyer) B.pre
  have hown : s.vm.findClass RX12 = some m.cls := findClass_of_methodNamed B.named
  have hlocks := B.notSynchronized
  have S : CallFix p m c cX12_isFlyer 2 s ([.ref (sk_ad G 158), .int (iI p1)].toArray) wsX12_isFlyer RX12 := ⟨hx, hb, hml, hown, hts⟩
  have hL0 := hts (.fieldLink RX12 140 "SkyLightsModel" "flyers" "I") (by decide +kernel)
  have hI12 : ∀ w ∈ u_ws RX12 TX12 53, w ∈ wsX12_isFlyer := by decide +kernel
  have hw : sk_W G 198 sk_t I s s.heap [] := ⟨hU, va_S.rf⟩
  have hl := lv_entry ([.ref (sk_ad G 158), .int (iI p1)]) (n := 2) (Nat.le_of_ble_eq_true rfl)
  rw [lg_entry_eq]
  generalize (lg_sl ([.ref (sk_ad G 158), .int (iI p1)]) ++ List.replicate (2 - (lg_sl ([.ref (sk_ad G 158), .int (iI p1)])).length) Slot.unset).toArray = ls at hl ⊢
  have hl : lv_has ls 2 [(0, .ref (sk_ad G 158)), (1, .int (iI p1))] := hl
  suffices hgo : ∀ (H : Heap) (locs : List Loc), sk_W G 198 sk_t I s H locs → W p l e (headSpec wsX12_isFlyer rmX12_isFlyer).room s m ([.ref (sk_ad G 158), .int (iI p1)].toArray) below meth c H locs 0 0 (MQ below (sk_Qz G 198 sk_t Q) ([.ref (sk_ad G 158), .int (iI p1)].toArray) s 0 0 (sk_A G)) (F0 m 0 ls []) from hgo _ _ hw
  unfold M_Mo_isFlyer at hM
  intro H locs hw
  refine lv_iload_n hx hb (okX12_isFlyer (0, .iload_n 1, 1) (List.mem_of_getElem? (i := 0) rfl)) rfl (lv_at hl 1 rfl) ?_
  refine sk_if_lt (tgt := 16) hx hb hr_p1 (okX12_isFlyer (1, .ifCond .lt 15, 3) (List.mem_of_getElem? (i := 1) rfl)) (by decide) (fun c1 => ?_) (fun c1 => ?_)
  · have hM := hM.1 c1
    refine lv_iconst (v := iI 0) hx hb (okX12_isFlyer (16, .iconst 0, 1) (List.mem_of_getElem? (i := 8) rfl)) rfl ?_
    exact sk_zret hx hb hr0 hlocks hK hw (Or.inl rfl) hM (okX12_isFlyer (17, .ireturn, 1) (List.mem_of_getElem? (i := 9) rfl))
  · have hM := hM.2 c1
    refine lv_iload_n hx hb (okX12_isFlyer (4, .iload_n 1, 1) (List.mem_of_getElem? (i := 2) rfl)) rfl (lv_at hl 1 rfl) ?_
    refine lv_aload_n hx hb (okX12_isFlyer (5, .aload_n 0, 1) (List.mem_of_getElem? (i := 3) rfl)) rfl (lv_at hl 0 rfl) ?_
    have hr1 := hw.1.2.2 158 8
    refine sk_geti S hK hw kdn_158 (kd_in kdn_158) (C := RX12) (T := TX12) (N := 53) rfl hI12 8 ⟨by decide, rfl, by decide, rfl⟩ rfl (k' := 8) rfl hL0 (okX12_isFlyer (6, .getfield 140, 3) (List.mem_of_getElem? (i := 4) rfl)) ?_
    refine sk_icmp_ge (tgt := 16) hx hb hr_p1 hr1 (okX12_isFlyer (9, .if_icmp .ge 7, 3) (List.mem_of_getElem? (i := 5) rfl)) (by decide) (fun c9 => ?_) (fun c9 => ?_)
    · have hM := hM.1 c9
      refine lv_iconst (v := iI 0) hx hb (okX12_isFlyer (16, .iconst 0, 1) (List.mem_of_getElem? (i := 8) rfl)) rfl ?_
      exact sk_zret hx hb hr0 hlocks hK hw (Or.inl rfl) hM (okX12_isFlyer (17, .ireturn, 1) (List.mem_of_getElem? (i := 9) rfl))
    · have hM := hM.2 c9
      refine lv_iconst (v := iI 1) hx hb (okX12_isFlyer (12, .iconst 1, 1) (List.mem_of_getElem? (i := 6) rfl)) rfl ?_
      refine lv_goto (tgt := 17) hx hb (okX12_isFlyer (13, .goto 4, 3) (List.mem_of_getElem? (i := 7) rfl)) (by decide) ?_
      exact sk_zret hx hb hr0 hlocks hK hw (Or.inr rfl) hM (okX12_isFlyer (17, .ireturn, 1) (List.mem_of_getElem? (i := 9) rfl))
def rmX12_isScene : Room := { frames := 0, cells := 0, slots := 0, locals := 0 }
set_option maxHeartbeats 4000000 in
set_option maxRecDepth 100000 in
theorem c_Mo_isScene (l : Launch) (G : sk_G) {p1 : Int} (hr_p1 : rI p1) {Q : Int → sk_S → Prop} {I : sk_S} (hM : M_Mo_isScene p1 Q I) : Met l yX12_isScene wsX12_isScene rmX12_isScene (va_Pc [.ref (sk_ad G 158), .int (iI p1)] (sk_U G 198 sk_t I)) (sk_Qz G 198 sk_t Q) 0 0 (sk_A G) := by
  refine Met.ofW (cc := cX12_isScene) (maxL := 2) (ret := (some .boolean)) (by decide) rfl ?_
  intro p e s m args below meth c s₁ B hml hv
  obtain ⟨rfl, hU, hK⟩ := hv
  have hx := B.exec
  have hb := B.bytes
  have hr0 := B.returns
  have hts := atoms_spec (ws := wsX12_isScene) B.pre
  have hown : s.vm.findClass RX12 = some m.cls := findClass_of_methodNamed B.named
  have hlocks := B.notSynchronized
  have S : CallFix p m c cX12_isScene 2 s ([.ref (sk_ad G 158), .int (iI p1)].toArray) wsX12_isScene RX12 := ⟨hx, hb, hml, hown, hts⟩
  have hL0 := hts (.fieldLink RX12 156 "SkyLightsModel" "scenes" "I") (by decide +kernel)
  have hI12 : ∀ w ∈ u_ws RX12 TX12 53, w ∈ wsX12_isScene := by decide +kernel
  have hw : sk_W G 198 sk_t I s s.heap [] := ⟨hU, va_S.rf⟩
  have hl := lv_entry ([.ref (sk_ad G 158), .int (iI p1)]) (n := 2) (Nat.le_of_ble_eq_true rfl)
  rw [lg_entry_eq]
  generalize (lg_sl ([.ref (sk_ad G 158), .int (iI p1)]) ++ List.replicate (2 - (lg_sl ([.ref (sk_ad G 158), .int (iI p1)])).length) Slot.unset).toArray = ls at hl ⊢
  have hl : lv_has ls 2 [(0, .ref (sk_ad G 158)), (1, .int (iI p1))] := hl
  suffices hgo : ∀ (H : Heap) (locs : List Loc), sk_W G 198 sk_t I s H locs → W p l e (headSpec wsX12_isScene rmX12_isScene).room s m ([.ref (sk_ad G 158), .int (iI p1)].toArray) below meth c H locs 0 0 (MQ below (sk_Qz G 198 sk_t Q) ([.ref (sk_ad G 158), .int (iI p1)].toArray) s 0 0 (sk_A G)) (F0 m 0 ls []) from hgo _ _ hw
  unfold M_Mo_isScene at hM
  intro H locs hw
  refine lv_iload_n hx hb (okX12_isScene (0, .iload_n 1, 1) (List.mem_of_getElem? (i := 0) rfl)) rfl (lv_at hl 1 rfl) ?_
  refine sk_if_lt (tgt := 16) hx hb hr_p1 (okX12_isScene (1, .ifCond .lt 15, 3) (List.mem_of_getElem? (i := 1) rfl)) (by decide) (fun c1 => ?_) (fun c1 => ?_)
  · have hM := hM.1 c1
    refine lv_iconst (v := iI 0) hx hb (okX12_isScene (16, .iconst 0, 1) (List.mem_of_getElem? (i := 8) rfl)) rfl ?_
    exact sk_zret hx hb hr0 hlocks hK hw (Or.inl rfl) hM (okX12_isScene (17, .ireturn, 1) (List.mem_of_getElem? (i := 9) rfl))
  · have hM := hM.2 c1
    refine lv_iload_n hx hb (okX12_isScene (4, .iload_n 1, 1) (List.mem_of_getElem? (i := 2) rfl)) rfl (lv_at hl 1 rfl) ?_
    refine lv_aload_n hx hb (okX12_isScene (5, .aload_n 0, 1) (List.mem_of_getElem? (i := 3) rfl)) rfl (lv_at hl 0 rfl) ?_
    have hr1 := hw.1.2.2 158 41
    refine sk_geti S hK hw kdn_158 (kd_in kdn_158) (C := RX12) (T := TX12) (N := 53) rfl hI12 41 ⟨by decide, rfl, by decide, rfl⟩ rfl (k' := 41) rfl hL0 (okX12_isScene (6, .getfield 156, 3) (List.mem_of_getElem? (i := 4) rfl)) ?_
    refine sk_icmp_ge (tgt := 16) hx hb hr_p1 hr1 (okX12_isScene (9, .if_icmp .ge 7, 3) (List.mem_of_getElem? (i := 5) rfl)) (by decide) (fun c9 => ?_) (fun c9 => ?_)
    · have hM := hM.1 c9
      refine lv_iconst (v := iI 0) hx hb (okX12_isScene (16, .iconst 0, 1) (List.mem_of_getElem? (i := 8) rfl)) rfl ?_
      exact sk_zret hx hb hr0 hlocks hK hw (Or.inl rfl) hM (okX12_isScene (17, .ireturn, 1) (List.mem_of_getElem? (i := 9) rfl))
    · have hM := hM.2 c9
      refine lv_iconst (v := iI 1) hx hb (okX12_isScene (12, .iconst 1, 1) (List.mem_of_getElem? (i := 6) rfl)) rfl ?_
      refine lv_goto (tgt := 17) hx hb (okX12_isScene (13, .goto 4, 3) (List.mem_of_getElem? (i := 7) rfl)) (by decide) ?_
      exact sk_zret hx hb hr0 hlocks hK hw (Or.inr rfl) hM (okX12_isScene (17, .ireturn, 1) (List.mem_of_getElem? (i := 9) rfl))
def rmX12_worthAt : Room := { frames := 0, cells := 0, slots := 0, locals := 0 }
set_option maxHeartbeats 4000000 in
set_option maxRecDepth 100000 in
theorem c_Mo_worthAt (l : Launch) (G : sk_G) {p1 p2 : Int} (hr_p1 : rI p1) (hr_p2 : rI p2) {Q : Int → sk_S → Prop} {I : sk_S} (hM : M_Mo_worthAt p1 p2 Q I) : Met l yX12_worthAt wsX12_worthAt rmX12_worthAt (va_Pc [.ref (sk_ad G 158), .int (iI p1), .int (iI p2)] (sk_U G 198 sk_t I)) (sk_Qi G 198 sk_t Q) 0 0 (sk_A G) := by
  refine Met.ofW (cc := cX12_worthAt) (maxL := 3) (ret := (some .int)) (by decide) rfl ?_
  intro p e s m args below meth c s₁ B hml hv
  obtain ⟨rfl, hU, hK⟩ := hv
  have hx := B.exec
  have hb := B.bytes
  have hr0 := B.returns
  have hts := atoms_spec (ws := wsX12_worthAt) B.pre
  have hown : s.vm.findClass RX12 = some m.cls := findClass_of_methodNamed B.named
  have hlocks := B.notSynchronized
  have S : CallFix p m c cX12_worthAt 3 s ([.ref (sk_ad G 158), .int (iI p1), .int (iI p2)].toArray) wsX12_worthAt RX12 := ⟨hx, hb, hml, hown, hts⟩
  have hL0 := hts (.fieldLink RX12 31 "SkyLightsModel" "worth" "[I") (by decide +kernel)
  have hL1 := hts (.fieldLink RX12 92 "SkyLightsModel" "sceneFigure" "[I") (by decide +kernel)
  have hL2 := hts (.fieldLink RX12 104 "SkyLightsModel" "standsAt" "[I") (by decide +kernel)
  have hI12 : ∀ w ∈ u_ws RX12 TX12 53, w ∈ wsX12_worthAt := by decide +kernel
  have hw : sk_W G 198 sk_t I s s.heap [] := ⟨hU, va_S.rf⟩
  have hl := lv_entry ([.ref (sk_ad G 158), .int (iI p1), .int (iI p2)]) (n := 3) (Nat.le_of_ble_eq_true rfl)
  rw [lg_entry_eq]
  generalize (lg_sl ([.ref (sk_ad G 158), .int (iI p1), .int (iI p2)]) ++ List.replicate (3 - (lg_sl ([.ref (sk_ad G 158), .int (iI p1), .int (iI p2)])).length) Slot.unset).toArray = ls at hl ⊢
  have hl : lv_has ls 3 [(0, .ref (sk_ad G 158)), (1, .int (iI p1)), (2, .int (iI p2))] := hl
  suffices hgo : ∀ (H : Heap) (locs : List Loc), sk_W G 198 sk_t I s H locs → W p l e (headSpec wsX12_worthAt rmX12_worthAt).room s m ([.ref (sk_ad G 158), .int (iI p1), .int (iI p2)].toArray) below meth c H locs 0 0 (MQ below (sk_Qi G 198 sk_t Q) ([.ref (sk_ad G 158), .int (iI p1), .int (iI p2)].toArray) s 0 0 (sk_A G)) (F0 m 0 ls []) from hgo _ _ hw
  unfold M_Mo_worthAt at hM
  intro H locs hw
  refine lv_aload_n hx hb (okX12_worthAt (0, .aload_n 0, 1) (List.mem_of_getElem? (i := 0) rfl)) rfl (lv_at hl 0 rfl) ?_
  refine sk_getr (b := 166) S hK hw kdn_158 (kd_in kdn_158) (C := RX12) (T := TX12) (N := 53) rfl hI12 7 ⟨by decide, rfl, by decide, rfl⟩ rfl (k' := 7) rfl rfl (by decide +kernel) hL0 (okX12_worthAt (1, .getfield 31, 3) (List.mem_of_getElem? (i := 1) rfl)) ?_
  refine lv_bipush (v := iI 10) hx hb (okX12_worthAt (4, .bipush 10, 2) (List.mem_of_getElem? (i := 2) rfl)) (by decide +kernel) ?_
  refine lv_aload_n hx hb (okX12_worthAt (6, .aload_n 0, 1) (List.mem_of_getElem? (i := 3) rfl)) rfl (lv_at hl 0 rfl) ?_
  refine sk_getr (b := 185) S hK hw kdn_158 (kd_in kdn_158) (C := RX12) (T := TX12) (N := 53) rfl hI12 35 ⟨by decide, rfl, by decide, rfl⟩ rfl (k' := 35) rfl rfl (by decide +kernel) hL1 (okX12_worthAt (7, .getfield 92, 3) (List.mem_of_getElem? (i := 4) rfl)) ?_
  refine lv_iload_n hx hb (okX12_worthAt (10, .iload_n 2, 1) (List.mem_of_getElem? (i := 5) rfl)) rfl (lv_at hl 2 rfl) ?_
  obtain ⟨hi1, hM⟩ := hM
  have hr2 := hw.1.2.2 185 p2
  refine sk_ild S hK hw kdn_185 (kd_in kdn_185) (by rw [lnn_185]; exact hi1) (okX12_worthAt (11, .iaload, 1) (List.mem_of_getElem? (i := 6) rfl)) ?_
  refine sk_imul hx hb (okX12_worthAt (12, .imul, 1) (List.mem_of_getElem? (i := 7) rfl)) ?_
  refine lv_aload_n hx hb (okX12_worthAt (13, .aload_n 0, 1) (List.mem_of_getElem? (i := 8) rfl)) rfl (lv_at hl 0 rfl) ?_
  refine sk_getr (b := 189) S hK hw kdn_158 (kd_in kdn_158) (C := RX12) (T := TX12) (N := 53) rfl hI12 39 ⟨by decide, rfl, by decide, rfl⟩ rfl (k' := 39) rfl rfl (by decide +kernel) hL2 (okX12_worthAt (14, .getfield 104, 3) (List.mem_of_getElem? (i := 9) rfl)) ?_
  refine lv_bipush (v := iI 10) hx hb (okX12_worthAt (17, .bipush 10, 2) (List.mem_of_getElem? (i := 10) rfl)) (by decide +kernel) ?_
  refine lv_iload_n hx hb (okX12_worthAt (19, .iload_n 2, 1) (List.mem_of_getElem? (i := 11) rfl)) rfl (lv_at hl 2 rfl) ?_
  refine sk_imul hx hb (okX12_worthAt (20, .imul, 1) (List.mem_of_getElem? (i := 12) rfl)) ?_
  refine lv_iload_n hx hb (okX12_worthAt (21, .iload_n 1, 1) (List.mem_of_getElem? (i := 13) rfl)) rfl (lv_at hl 1 rfl) ?_
  refine sk_iadd hx hb (okX12_worthAt (22, .iadd, 1) (List.mem_of_getElem? (i := 14) rfl)) ?_
  obtain ⟨hi3, hM⟩ := hM
  have hr4 := hw.1.2.2 189 ((10 * p2) + p1)
  refine sk_ild S hK hw kdn_189 (kd_in kdn_189) (by rw [lnn_189]; exact hi3) (okX12_worthAt (23, .iaload, 1) (List.mem_of_getElem? (i := 15) rfl)) ?_
  refine sk_iadd hx hb (okX12_worthAt (24, .iadd, 1) (List.mem_of_getElem? (i := 16) rfl)) ?_
  obtain ⟨hi5, hM⟩ := hM
  have hr6 := hw.1.2.2 166 ((10 * (I 185 p2)) + (I 189 ((10 * p2) + p1)))
  refine sk_ild S hK hw kdn_166 (kd_in kdn_166) (by rw [lnn_166]; exact hi5) (okX12_worthAt (25, .iaload, 1) (List.mem_of_getElem? (i := 17) rfl)) ?_
  exact sk_iret hx hb hr0 hlocks hK hw hr6 hM (okX12_worthAt (26, .ireturn, 1) (List.mem_of_getElem? (i := 18) rfl))
def rmX12_fails : Room := { frames := 1, cells := 0, slots := 0, locals := 57 }
set_option maxHeartbeats 4000000 in
set_option maxRecDepth 100000 in
theorem c_Mo_fails (l : Launch) (G : sk_G) {p1 p2 p3 : Int} (hr_p1 : rI p1) (hr_p2 : rI p2) (hr_p3 : rI p3) {Q : Int → sk_S → Prop} {I : sk_S} (hM : M_Mo_fails p1 p2 p3 Q I) : Met l yX12_fails wsX12_fails rmX12_fails (va_Pc [.ref (sk_ad G 158), .int (iI p1), .int (iI p2), .int (iI p3)] (sk_U G 198 sk_t I)) (sk_Qi G 198 sk_t Q) 0 0 (sk_A G) := by
  refine Met.ofW (cc := cX12_fails) (maxL := 7) (ret := (some .int)) (by decide) rfl ?_
  intro p e s m args below meth c s₁ B hml hv
  obtain ⟨rfl, hU, hK⟩ := hv
  have hx := B.exec
  have hb := B.bytes
  have hr0 := B.returns
  have hts := atoms_spec (ws := wsX12_fails) B.pre
  have hown : s.vm.findClass RX12 = some m.cls := findClass_of_methodNamed B.named
  have hlocks := B.notSynchronized
  have S : CallFix p m c cX12_fails 7 s ([.ref (sk_ad G 158), .int (iI p1), .int (iI p2), .int (iI p3)].toArray) wsX12_fails RX12 := ⟨hx, hb, hml, hown, hts⟩
  have hL0 := hts (.fieldLink RX12 140 "SkyLightsModel" "flyers" "I") (by decide +kernel)
  have hI12 : ∀ w ∈ u_ws RX12 TX12 53, w ∈ wsX12_fails := by decide +kernel
  have hw : sk_W G 198 sk_t I s s.heap [] := ⟨hU, va_S.rf⟩
  have hl := lv_entry ([.ref (sk_ad G 158), .int (iI p1), .int (iI p2), .int (iI p3)]) (n := 7) (Nat.le_of_ble_eq_true rfl)
  rw [lg_entry_eq]
  generalize (lg_sl ([.ref (sk_ad G 158), .int (iI p1), .int (iI p2), .int (iI p3)]) ++ List.replicate (7 - (lg_sl ([.ref (sk_ad G 158), .int (iI p1), .int (iI p2), .int (iI p3)])).length) Slot.unset).toArray = ls at hl ⊢
  have hl : lv_has ls 7 [(0, .ref (sk_ad G 158)), (1, .int (iI p1)), (2, .int (iI p2)), (3, .int (iI p3))] := hl
  suffices hgo : ∀ (H : Heap) (locs : List Loc), sk_W G 198 sk_t I s H locs → W p l e (headSpec wsX12_fails rmX12_fails).room s m ([.ref (sk_ad G 158), .int (iI p1), .int (iI p2), .int (iI p3)].toArray) below meth c H locs 0 0 (MQ below (sk_Qi G 198 sk_t Q) ([.ref (sk_ad G 158), .int (iI p1), .int (iI p2), .int (iI p3)].toArray) s 0 0 (sk_A G)) (F0 m 0 ls []) from hgo _ _ hw
  have hJ_43 : ∀ (v1 v2 v3 v4 v5 v6 : Int) (I : sk_S), rI v1 → rI v2 → rI v3 → rI v4 → rI v5 → rI v6 → L_Mo_fails_43 v1 v2 v3 Q v4 v5 v6 I → ∀ (H : Heap) (locs : List Loc) (ls : Array Slot), sk_W G 198 sk_t I s H locs → lv_has ls 7 [(0, .ref (sk_ad G 158)), (1, .int (iI v1)), (2, .int (iI v2)), (3, .int (iI v3)), (4, .int (iI v4)), (5, .int (iI v5)), (6, .int (iI v6))] → W p l e (headSpec wsX12_fails rmX12_fails).room s m ([.ref (sk_ad G 158), .int (iI p1), .int (iI p2), .int (iI p3)].toArray) below meth c H locs 0 0 (MQ below (sk_Qi G 198 sk_t Q) ([.ref (sk_ad G 158), .int (iI p1), .int (iI p2), .int (iI p3)].toArray) s 0 0 (sk_A G)) (F0 m 43 ls []) := by
    intro v1 v2 v3 v4 v5 v6 I hr_v1 hr_v2 hr_v3 hr_v4 hr_v5 hr_v6 hM H locs ls hw hl
    unfold L_Mo_fails_43 at hM
    obtain ⟨X_43, hX_43⟩ : ∃ X : Int → Int → Int → sk_S → Prop, ∀ (v4 v5 v6 : Int) (I : sk_S), X v4 v5 v6 I ↔ (rI v4 → rI v5 → rI v6 → ∀ (H : Heap) (locs : List Loc) (ls : Array Slot), sk_W G 198 sk_t I s H locs → lv_has ls 7 [(0, .ref (sk_ad G 158)), (1, .int (iI v1)), (2, .int (iI v2)), (3, .int (iI v3)), (4, .int (iI v4)), (5, .int (iI v5)), (6, .int (iI v6))] → W p l e (headSpec wsX12_fails rmX12_fails).room s m ([.ref (sk_ad G 158), .int (iI p1), .int (iI p2), .int (iI p3)].toArray) below meth c H locs 0 0 (MQ below (sk_Qi G 198 sk_t Q) ([.ref (sk_ad G 158), .int (iI p1), .int (iI p2), .int (iI p3)].toArray) s 0 0 (sk_A G)) (F0 m 43 ls [])) := ⟨_, fun _ _ _ _ => Iff.rfl⟩
    have hJ_86 : ∀ (v4 v5 v6 : Int) (I : sk_S), rI v4 → rI v5 → rI v6 → J_Mo_fails_86 v1 v2 v3 v4 v5 v6 Q X_43 I → ∀ (H : Heap) (locs : List Loc) (ls : Array Slot), sk_W G 198 sk_t I s H locs → lv_has ls 7 [(0, .ref (sk_ad G 158)), (1, .int (iI v1)), (2, .int (iI v2)), (3, .int (iI v3)), (4, .int (iI v4)), (5, .int (iI v5)), (6, .int (iI v6))] → W p l e (headSpec wsX12_fails rmX12_fails).room s m ([.ref (sk_ad G 158), .int (iI p1), .int (iI p2), .int (iI p3)].toArray) below meth c H locs 0 0 (MQ below (sk_Qi G 198 sk_t Q) ([.ref (sk_ad G 158), .int (iI p1), .int (iI p2), .int (iI p3)].toArray) s 0 0 (sk_A G)) (F0 m 86 ls []) := by
      intro v4 v5 v6 I hr_v4 hr_v5 hr_v6 hM H locs ls hw hl
      unfold J_Mo_fails_86 at hM
      obtain ⟨hr2, hM⟩ := hM
      obtain ⟨v6_86, ev6_86⟩ : ∃ y : Int, y = v6 + 1 := ⟨_, rfl⟩
      have hM := hM v6_86 ev6_86
      have hr_v6_86 : rI v6_86 := by rw [ev6_86]; exact hr2
      refine lv_iinc (v := iI v6_86) (lv' := [(6, .int (iI v6_86)), (0, .ref (sk_ad G 158)), (1, .int (iI v1)), (2, .int (iI v2)), (3, .int (iI v3)), (4, .int (iI v4)), (5, .int (iI v5))]) hx hb (okX12_fails (86, .iinc 6 1, 3) (List.mem_of_getElem? (i := 46) rfl)) hl (k := 6) rfl (by rw [ev6_86]; exact iI_add _ _) (by decide) rfl (fun ls hl => ?_)
      refine lv_goto (tgt := 43) hx hb (okX12_fails (89, .goto (-46), 3) (List.mem_of_getElem? (i := 47) rfl)) (by decide) ?_
      exact (hX_43 v4 v5 v6_86 I).1 hM hr_v4 hr_v5 hr_v6_86 H locs ls hw (lv_sub hl [1, 2, 3, 4, 5, 6, 0] rfl)
    refine (hX_43 v4 v5 v6 I).1 (hM X_43 (fun v4 v5 v6 I hM => (hX_43 v4 v5 v6 I).2 (fun hr_v4 hr_v5 hr_v6 H locs ls hw hl => ?_))) hr_v4 hr_v5 hr_v6 H locs ls hw hl
    refine lv_iload hx hb (okX12_fails (43, .iload 6, 2) (List.mem_of_getElem? (i := 25) rfl)) (lv_at hl 6 rfl) ?_
    refine lv_aload_n hx hb (okX12_fails (45, .aload_n 0, 1) (List.mem_of_getElem? (i := 26) rfl)) rfl (lv_at hl 0 rfl) ?_
    have hr1 := hw.1.2.2 158 8
    refine sk_geti S hK hw kdn_158 (kd_in kdn_158) (C := RX12) (T := TX12) (N := 53) rfl hI12 8 ⟨by decide, rfl, by decide, rfl⟩ rfl (k' := 8) rfl hL0 (okX12_fails (46, .getfield 140, 3) (List.mem_of_getElem? (i := 27) rfl)) ?_
    refine sk_icmp_ge (tgt := 92) hx hb hr_v6 hr1 (okX12_fails (49, .if_icmp .ge 43, 3) (List.mem_of_getElem? (i := 28) rfl)) (by decide) (fun c49 => ?_) (fun c49 => ?_)
    · have hM := hM.1 c49
      refine lv_iload_n hx hb (okX12_fails (92, .iload_n 3, 1) (List.mem_of_getElem? (i := 48) rfl)) rfl (lv_at hl 3 rfl) ?_
      refine sk_if_ne (tgt := 101) hx hb hr_v3 (okX12_fails (93, .ifCond .ne 8, 3) (List.mem_of_getElem? (i := 49) rfl)) (by decide) (fun c93 => ?_) (fun c93 => ?_)
      · have hM := hM.1 c93
        refine lv_iload hx hb (okX12_fails (101, .iload 5, 2) (List.mem_of_getElem? (i := 52) rfl)) (lv_at hl 5 rfl) ?_
        exact sk_iret hx hb hr0 hlocks hK hw hr_v5 hM (okX12_fails (103, .ireturn, 1) (List.mem_of_getElem? (i := 53) rfl))
      · have hM := hM.2 c93
        refine lv_iload hx hb (okX12_fails (96, .iload 4, 2) (List.mem_of_getElem? (i := 50) rfl)) (lv_at hl 4 rfl) ?_
        refine lv_goto (tgt := 103) hx hb (okX12_fails (98, .goto 5, 3) (List.mem_of_getElem? (i := 51) rfl)) (by decide) ?_
        exact sk_iret hx hb hr0 hlocks hK hw hr_v4 hM (okX12_fails (103, .ireturn, 1) (List.mem_of_getElem? (i := 53) rfl))
    · have hM := hM.2 c49
      refine lv_iload hx hb (okX12_fails (52, .iload 6, 2) (List.mem_of_getElem? (i := 29) rfl)) (lv_at hl 6 rfl) ?_
      refine lv_iload_n hx hb (okX12_fails (54, .iload_n 1, 1) (List.mem_of_getElem? (i := 30) rfl)) rfl (lv_at hl 1 rfl) ?_
      refine sk_icmp_eq (tgt := 86) hx hb hr_v6 hr_v1 (okX12_fails (55, .if_icmp .eq 31, 3) (List.mem_of_getElem? (i := 31) rfl)) (by decide) (fun c55 => ?_) (fun c55 => ?_)
      · have hM := hM.1 c55
        exact hJ_86 v4 v5 v6 I hr_v4 hr_v5 hr_v6 hM H locs ls hw (lv_sub hl [0, 1, 2, 3, 4, 5, 6] rfl)
      · have hM := hM.2 c55
        refine lv_aload_n hx hb (okX12_fails (58, .aload_n 0, 1) (List.mem_of_getElem? (i := 32) rfl)) rfl (lv_at hl 0 rfl) ?_
        refine lv_iload hx hb (okX12_fails (59, .iload 6, 2) (List.mem_of_getElem? (i := 33) rfl)) (lv_at hl 6 rfl) ?_
        refine lv_iload_n hx hb (okX12_fails (61, .iload_n 2, 1) (List.mem_of_getElem? (i := 34) rfl)) rfl (lv_at hl 2 rfl) ?_
        refine sk_ci (sk_runV (a := 158) (C := RX12) (As := [.int (iI v6), .int (iI v2)]) (rest := []) S (c_Mo_worthAt l G hr_v6 hr_v2 hM) sk_blind gX12_fails_X12_worthAt rfl hdX12_worthAt ⟨⟨rfl, rfl⟩, Nat.le_of_ble_eq_true rfl, Nat.le_of_ble_eq_true rfl⟩ (sk_recv hK hw kdn_158 (kd_in kdn_158) (by decide) rfl) (sk_pre hK hw) rfl hl.1 rfl (Nat.le_of_ble_eq_true rfl) (okX12_fails (62, .invokevirtual 300, 3) (List.mem_of_getElem? (i := 35) rfl)) ⟨Nat.zero_le _, Nat.zero_le _⟩) hw (fun r_62 I_62 H locs hr_r_62 hM hw => ?_)
        refine lv_iload hx hb (okX12_fails (65, .iload 4, 2) (List.mem_of_getElem? (i := 36) rfl)) (lv_at hl 4 rfl) ?_
        refine sk_icmp_lt (tgt := 73) hx hb hr_r_62 hr_v4 (okX12_fails (67, .if_icmp .lt 6, 3) (List.mem_of_getElem? (i := 37) rfl)) (by decide) (fun c67 => ?_) (fun c67 => ?_)
        · have hM := hM.1 c67
          refine lv_aload_n hx hb (okX12_fails (73, .aload_n 0, 1) (List.mem_of_getElem? (i := 39) rfl)) rfl (lv_at hl 0 rfl) ?_
          refine lv_iload hx hb (okX12_fails (74, .iload 6, 2) (List.mem_of_getElem? (i := 40) rfl)) (lv_at hl 6 rfl) ?_
          refine lv_iload_n hx hb (okX12_fails (76, .iload_n 2, 1) (List.mem_of_getElem? (i := 41) rfl)) rfl (lv_at hl 2 rfl) ?_
          refine sk_ci (sk_runV (a := 158) (C := RX12) (As := [.int (iI v6), .int (iI v2)]) (rest := []) S (c_Mo_worthAt l G hr_v6 hr_v2 hM) sk_blind gX12_fails_X12_worthAt rfl hdX12_worthAt ⟨⟨rfl, rfl⟩, Nat.le_of_ble_eq_true rfl, Nat.le_of_ble_eq_true rfl⟩ (sk_recv hK hw kdn_158 (kd_in kdn_158) (by decide) rfl) (sk_pre hK hw) rfl hl.1 rfl (Nat.le_of_ble_eq_true rfl) (okX12_fails (77, .invokevirtual 300, 3) (List.mem_of_getElem? (i := 42) rfl)) ⟨Nat.zero_le _, Nat.zero_le _⟩) hw (fun r_77 I_77 H locs hr_r_77 hM hw => ?_)
          refine lv_istore (lv' := [(4, .int (iI r_77)), (0, .ref (sk_ad G 158)), (1, .int (iI v1)), (2, .int (iI v2)), (3, .int (iI v3)), (5, .int (iI v5)), (6, .int (iI v6))]) hx hb (okX12_fails (80, .istore 4, 2) (List.mem_of_getElem? (i := 43) rfl)) hl (by decide) rfl (fun ls hl => ?_)
          refine lv_iload hx hb (okX12_fails (82, .iload 6, 2) (List.mem_of_getElem? (i := 44) rfl)) (lv_at hl 6 rfl) ?_
          refine lv_istore (lv' := [(5, .int (iI v6)), (4, .int (iI r_77)), (0, .ref (sk_ad G 158)), (1, .int (iI v1)), (2, .int (iI v2)), (3, .int (iI v3)), (6, .int (iI v6))]) hx hb (okX12_fails (84, .istore 5, 2) (List.mem_of_getElem? (i := 45) rfl)) hl (by decide) rfl (fun ls hl => ?_)
          exact hJ_86 r_77 v6 v6 I_77 hr_r_77 hr_v6 hr_v6 hM H locs ls hw (lv_sub hl [2, 3, 4, 5, 1, 0, 6] rfl)
        · have hM := hM.2 c67
          refine lv_goto (tgt := 86) hx hb (okX12_fails (70, .goto 16, 3) (List.mem_of_getElem? (i := 38) rfl)) (by decide) ?_
          exact hJ_86 v4 v5 v6 I_62 hr_v4 hr_v5 hr_v6 hM H locs ls hw (lv_sub hl [0, 1, 2, 3, 4, 5, 6] rfl)
  unfold M_Mo_fails at hM
  intro H locs hw
  refine lv_aload_n hx hb (okX12_fails (0, .aload_n 0, 1) (List.mem_of_getElem? (i := 0) rfl)) rfl (lv_at hl 0 rfl) ?_
  refine lv_iload_n hx hb (okX12_fails (1, .iload_n 1, 1) (List.mem_of_getElem? (i := 1) rfl)) rfl (lv_at hl 1 rfl) ?_
  refine sk_ci (sk_runV (a := 158) (C := RX12) (As := [.int (iI p1)]) (rest := []) S (c_Mo_isFlyer l G hr_p1 hM) sk_blind gX12_fails_X12_isFlyer rfl hdX12_isFlyer ⟨⟨rfl, rfl⟩, Nat.le_of_ble_eq_true rfl, Nat.le_of_ble_eq_true rfl⟩ (sk_recv hK hw kdn_158 (kd_in kdn_158) (by decide) rfl) (sk_pre hK hw) rfl hl.1 rfl (Nat.le_of_ble_eq_true rfl) (okX12_fails (2, .invokevirtual 282, 3) (List.mem_of_getElem? (i := 2) rfl)) ⟨Nat.zero_le _, Nat.zero_le _⟩) hw (fun r_2 I_2 H locs hr_r_2 hM hw => ?_)
  obtain ⟨hb_r_2, hM⟩ := hM
  refine sk_if_eq (tgt := 26) hx hb hr_r_2 (okX12_fails (5, .ifCond .eq 21, 3) (List.mem_of_getElem? (i := 3) rfl)) (by decide) (fun c5 => ?_) (fun c5 => ?_)
  · have hM := hM.1 c5
    refine lv_iconst (v := iI (-1)) hx hb (okX12_fails (26, .iconst (-1), 1) (List.mem_of_getElem? (i := 14) rfl)) rfl ?_
    exact sk_iret hx hb hr0 hlocks hK hw (by decide) hM (okX12_fails (27, .ireturn, 1) (List.mem_of_getElem? (i := 15) rfl))
  · have hM := hM.2 c5
    refine lv_aload_n hx hb (okX12_fails (8, .aload_n 0, 1) (List.mem_of_getElem? (i := 4) rfl)) rfl (lv_at hl 0 rfl) ?_
    refine lv_iload_n hx hb (okX12_fails (9, .iload_n 2, 1) (List.mem_of_getElem? (i := 5) rfl)) rfl (lv_at hl 2 rfl) ?_
    refine sk_ci (sk_runV (a := 158) (C := RX12) (As := [.int (iI p2)]) (rest := []) S (c_Mo_isScene l G hr_p2 hM) sk_blind gX12_fails_X12_isScene rfl hdX12_isScene ⟨⟨rfl, rfl⟩, Nat.le_of_ble_eq_true rfl, Nat.le_of_ble_eq_true rfl⟩ (sk_recv hK hw kdn_158 (kd_in kdn_158) (by decide) rfl) (sk_pre hK hw) rfl hl.1 rfl (Nat.le_of_ble_eq_true rfl) (okX12_fails (10, .invokevirtual 285, 3) (List.mem_of_getElem? (i := 6) rfl)) ⟨Nat.zero_le _, Nat.zero_le _⟩) hw (fun r_10 I_10 H locs hr_r_10 hM hw => ?_)
    obtain ⟨hb_r_10, hM⟩ := hM
    refine sk_if_eq (tgt := 26) hx hb hr_r_10 (okX12_fails (13, .ifCond .eq 13, 3) (List.mem_of_getElem? (i := 7) rfl)) (by decide) (fun c13 => ?_) (fun c13 => ?_)
    · have hM := hM.1 c13
      refine lv_iconst (v := iI (-1)) hx hb (okX12_fails (26, .iconst (-1), 1) (List.mem_of_getElem? (i := 14) rfl)) rfl ?_
      exact sk_iret hx hb hr0 hlocks hK hw (by decide) hM (okX12_fails (27, .ireturn, 1) (List.mem_of_getElem? (i := 15) rfl))
    · have hM := hM.2 c13
      refine lv_iload_n hx hb (okX12_fails (16, .iload_n 3, 1) (List.mem_of_getElem? (i := 8) rfl)) rfl (lv_at hl 3 rfl) ?_
      refine sk_i2l hx hb hr_p3 (okX12_fails (17, .i2l, 1) (List.mem_of_getElem? (i := 9) rfl)) ?_
      refine lv_lconst (v := lI 0) hx hb (okX12_fails (18, .lconst 0, 1) (List.mem_of_getElem? (i := 10) rfl)) (by decide +kernel) ?_
      refine lv_lconst (v := lI 1) hx hb (okX12_fails (19, .lconst 1, 1) (List.mem_of_getElem? (i := 11) rfl)) (by decide +kernel) ?_
      refine sk_ci (sk_runS (As := [.long (lI p3), .long (lI 0), .long (lI 1)]) (rest := []) S (c_Mo_isIn l G ⟨Int.le_trans (by decide) (hr_p3).1, Int.lt_trans (hr_p3).2 (by decide)⟩ (by decide) (by decide) hM) sk_blind gX12_fails_X12_isIn rfl hdX12_isIn ⟨⟨rfl, rfl⟩, Nat.le_of_ble_eq_true rfl, Nat.le_of_ble_eq_true rfl⟩ (sk_pre hK hw) rfl hl.1 rfl (Nat.le_of_ble_eq_true rfl) (okX12_fails (20, .invokestatic 150, 3) (List.mem_of_getElem? (i := 12) rfl)) ⟨Nat.zero_le _, Nat.zero_le _⟩) hw (fun r_20 I_20 H locs hr_r_20 hM hw => ?_)
      obtain ⟨hb_r_20, hM⟩ := hM
      refine sk_if_ne (tgt := 28) hx hb hr_r_20 (okX12_fails (23, .ifCond .ne 5, 3) (List.mem_of_getElem? (i := 13) rfl)) (by decide) (fun c23 => ?_) (fun c23 => ?_)
      · have hM := hM.1 c23
        refine lv_aload_n hx hb (okX12_fails (28, .aload_n 0, 1) (List.mem_of_getElem? (i := 16) rfl)) rfl (lv_at hl 0 rfl) ?_
        refine lv_iload_n hx hb (okX12_fails (29, .iload_n 1, 1) (List.mem_of_getElem? (i := 17) rfl)) rfl (lv_at hl 1 rfl) ?_
        refine lv_iload_n hx hb (okX12_fails (30, .iload_n 2, 1) (List.mem_of_getElem? (i := 18) rfl)) rfl (lv_at hl 2 rfl) ?_
        refine sk_ci (sk_runV (a := 158) (C := RX12) (As := [.int (iI p1), .int (iI p2)]) (rest := []) S (c_Mo_worthAt l G hr_p1 hr_p2 hM) sk_blind gX12_fails_X12_worthAt rfl hdX12_worthAt ⟨⟨rfl, rfl⟩, Nat.le_of_ble_eq_true rfl, Nat.le_of_ble_eq_true rfl⟩ (sk_recv hK hw kdn_158 (kd_in kdn_158) (by decide) rfl) (sk_pre hK hw) rfl hl.1 rfl (Nat.le_of_ble_eq_true rfl) (okX12_fails (31, .invokevirtual 300, 3) (List.mem_of_getElem? (i := 19) rfl)) ⟨Nat.zero_le _, Nat.zero_le _⟩) hw (fun r_31 I_31 H locs hr_r_31 hM hw => ?_)
        refine lv_istore (lv' := [(4, .int (iI r_31)), (0, .ref (sk_ad G 158)), (1, .int (iI p1)), (2, .int (iI p2)), (3, .int (iI p3))]) hx hb (okX12_fails (34, .istore 4, 2) (List.mem_of_getElem? (i := 20) rfl)) hl (by decide) rfl (fun ls hl => ?_)
        refine lv_bipush (v := iI (-2)) hx hb (okX12_fails (36, .bipush (-2), 2) (List.mem_of_getElem? (i := 21) rfl)) (by decide +kernel) ?_
        refine lv_istore (lv' := [(5, .int (iI ((-2)))), (4, .int (iI r_31)), (0, .ref (sk_ad G 158)), (1, .int (iI p1)), (2, .int (iI p2)), (3, .int (iI p3))]) hx hb (okX12_fails (38, .istore 5, 2) (List.mem_of_getElem? (i := 22) rfl)) hl (by decide) rfl (fun ls hl => ?_)
        refine lv_iconst (v := iI 0) hx hb (okX12_fails (40, .iconst 0, 1) (List.mem_of_getElem? (i := 23) rfl)) rfl ?_
        refine lv_istore (lv' := [(6, .int (iI 0)), (5, .int (iI ((-2)))), (4, .int (iI r_31)), (0, .ref (sk_ad G 158)), (1, .int (iI p1)), (2, .int (iI p2)), (3, .int (iI p3))]) hx hb (okX12_fails (41, .istore 6, 2) (List.mem_of_getElem? (i := 24) rfl)) hl (by decide) rfl (fun ls hl => ?_)
        exact hJ_43 p1 p2 p3 r_31 ((-2)) 0 I_31 hr_p1 hr_p2 hr_p3 hr_r_31 (by decide) (by decide) hM H locs ls hw (lv_sub hl [3, 4, 5, 6, 2, 1, 0] rfl)
      · have hM := hM.2 c23
        refine lv_iconst (v := iI (-1)) hx hb (okX12_fails (26, .iconst (-1), 1) (List.mem_of_getElem? (i := 14) rfl)) rfl ?_
        exact sk_iret hx hb hr0 hlocks hK hw (by decide) hM (okX12_fails (27, .ireturn, 1) (List.mem_of_getElem? (i := 15) rfl))
def rmX12_feed : Room := { frames := 1, cells := 0, slots := 0, locals := 57 }
set_option maxHeartbeats 4000000 in
set_option maxRecDepth 100000 in
theorem c_Mo_feed (l : Launch) (G : sk_G) {p1 p3 : Int} (hr_p1 : rL p1) (hr_p3 : rI p3) {Q : Int → sk_S → Prop} {I : sk_S} (hM : M_Mo_feed p1 p3 Q I) : Met l yX12_feed wsX12_feed rmX12_feed (va_Pc [.ref (sk_ad G 158), .long (lI p1), .int (iI p3)] (sk_U G 198 sk_t I)) (sk_Qi G 198 sk_t Q) 0 0 (sk_A G) := by
  refine Met.ofW (cc := cX12_feed) (maxL := 5) (ret := (some .int)) (by decide) rfl ?_
  intro p e s m args below meth c s₁ B hml hv
  obtain ⟨rfl, hU, hK⟩ := hv
  have hx := B.exec
  have hb := B.bytes
  have hr0 := B.returns
  have hts := atoms_spec (ws := wsX12_feed) B.pre
  have hown : s.vm.findClass RX12 = some m.cls := findClass_of_methodNamed B.named
  have hlocks := B.notSynchronized
  have S : CallFix p m c cX12_feed 5 s ([.ref (sk_ad G 158), .long (lI p1), .int (iI p3)].toArray) wsX12_feed RX12 := ⟨hx, hb, hml, hown, hts⟩
  have hL0 := hts (.constantLong RX12 159 (8)) (by decide +kernel)
  have hL1 := hts (.fieldLink RX12 161 "SkyLightsModel" "taped" "I") (by decide +kernel)
  have hL2 := hts (.fieldLink RX12 38 "SkyLightsModel" "tape" "[I") (by decide +kernel)
  have hL3 := hts (.constantLong RX12 164 (255)) (by decide +kernel)
  have hI12 : ∀ w ∈ u_ws RX12 TX12 53, w ∈ wsX12_feed := by decide +kernel
  have hw : sk_W G 198 sk_t I s s.heap [] := ⟨hU, va_S.rf⟩
  have hl := lv_entry ([.ref (sk_ad G 158), .long (lI p1), .int (iI p3)]) (n := 5) (Nat.le_of_ble_eq_true rfl)
  rw [lg_entry_eq]
  generalize (lg_sl ([.ref (sk_ad G 158), .long (lI p1), .int (iI p3)]) ++ List.replicate (5 - (lg_sl ([.ref (sk_ad G 158), .long (lI p1), .int (iI p3)])).length) Slot.unset).toArray = ls at hl ⊢
  have hl : lv_has ls 5 [(0, .ref (sk_ad G 158)), (1, .long (lI p1)), (3, .int (iI p3))] := hl
  suffices hgo : ∀ (H : Heap) (locs : List Loc), sk_W G 198 sk_t I s H locs → W p l e (headSpec wsX12_feed rmX12_feed).room s m ([.ref (sk_ad G 158), .long (lI p1), .int (iI p3)].toArray) below meth c H locs 0 0 (MQ below (sk_Qi G 198 sk_t Q) ([.ref (sk_ad G 158), .long (lI p1), .int (iI p3)].toArray) s 0 0 (sk_A G)) (F0 m 0 ls []) from hgo _ _ hw
  have hJ_35 : ∀ (v1 v4 : Int) (I : sk_S), rL v1 → rI v4 → L_Mo_feed_35 v1 Q v4 I → ∀ (H : Heap) (locs : List Loc) (ls : Array Slot), sk_W G 198 sk_t I s H locs → lv_has ls 5 [(0, .ref (sk_ad G 158)), (1, .long (lI v1)), (4, .int (iI v4))] → W p l e (headSpec wsX12_feed rmX12_feed).room s m ([.ref (sk_ad G 158), .long (lI p1), .int (iI p3)].toArray) below meth c H locs 0 0 (MQ below (sk_Qi G 198 sk_t Q) ([.ref (sk_ad G 158), .long (lI p1), .int (iI p3)].toArray) s 0 0 (sk_A G)) (F0 m 35 ls []) := by
    intro v1 v4 I hr_v1 hr_v4 hM H locs ls hw hl
    unfold L_Mo_feed_35 at hM
    obtain ⟨X_35, hX_35⟩ : ∃ X : Int → sk_S → Prop, ∀ (v4 : Int) (I : sk_S), X v4 I ↔ (rI v4 → ∀ (H : Heap) (locs : List Loc) (ls : Array Slot), sk_W G 198 sk_t I s H locs → lv_has ls 5 [(0, .ref (sk_ad G 158)), (1, .long (lI v1)), (4, .int (iI v4))] → W p l e (headSpec wsX12_feed rmX12_feed).room s m ([.ref (sk_ad G 158), .long (lI p1), .int (iI p3)].toArray) below meth c H locs 0 0 (MQ below (sk_Qi G 198 sk_t Q) ([.ref (sk_ad G 158), .long (lI p1), .int (iI p3)].toArray) s 0 0 (sk_A G)) (F0 m 35 ls [])) := ⟨_, fun _ _ => Iff.rfl⟩
    refine (hX_35 v4 I).1 (hM X_35 (fun v4 I hM => (hX_35 v4 I).2 (fun hr_v4 H locs ls hw hl => ?_))) hr_v4 H locs ls hw hl
    refine lv_iload hx hb (okX12_feed (35, .iload 4, 2) (List.mem_of_getElem? (i := 20) rfl)) (lv_at hl 2 rfl) ?_
    refine sk_if_lt (tgt := 77) hx hb hr_v4 (okX12_feed (37, .ifCond .lt 40, 3) (List.mem_of_getElem? (i := 21) rfl)) (by decide) (fun c37 => ?_) (fun c37 => ?_)
    · have hM := hM.1 c37
      refine lv_aload_n hx hb (okX12_feed (77, .aload_n 0, 1) (List.mem_of_getElem? (i := 43) rfl)) rfl (lv_at hl 0 rfl) ?_
      have hr4 := hw.1.2.2 158 15
      refine sk_geti S hK hw kdn_158 (kd_in kdn_158) (C := RX12) (T := TX12) (N := 53) rfl hI12 15 ⟨by decide, rfl, by decide, rfl⟩ rfl (k' := 15) rfl hL1 (okX12_feed (78, .getfield 161, 3) (List.mem_of_getElem? (i := 44) rfl)) ?_
      exact sk_iret hx hb hr0 hlocks hK hw hr4 hM (okX12_feed (81, .ireturn, 1) (List.mem_of_getElem? (i := 45) rfl))
    · have hM := hM.2 c37
      refine lv_aload_n hx hb (okX12_feed (40, .aload_n 0, 1) (List.mem_of_getElem? (i := 22) rfl)) rfl (lv_at hl 0 rfl) ?_
      refine sk_getr (b := 167) S hK hw kdn_158 (kd_in kdn_158) (C := RX12) (T := TX12) (N := 53) rfl hI12 14 ⟨by decide, rfl, by decide, rfl⟩ rfl (k' := 14) rfl rfl (by decide +kernel) hL2 (okX12_feed (41, .getfield 38, 3) (List.mem_of_getElem? (i := 23) rfl)) ?_
      refine lv_aload_n hx hb (okX12_feed (44, .aload_n 0, 1) (List.mem_of_getElem? (i := 24) rfl)) rfl (lv_at hl 0 rfl) ?_
      have hr5 := hw.1.2.2 158 15
      refine sk_geti S hK hw kdn_158 (kd_in kdn_158) (C := RX12) (T := TX12) (N := 53) rfl hI12 15 ⟨by decide, rfl, by decide, rfl⟩ rfl (k' := 15) rfl hL1 (okX12_feed (45, .getfield 161, 3) (List.mem_of_getElem? (i := 25) rfl)) ?_
      refine lv_lload_n hx hb (okX12_feed (48, .lload_n 1, 1) (List.mem_of_getElem? (i := 26) rfl)) rfl (lv_at hl 1 rfl) ?_
      refine lv_bipush (v := iI 8) hx hb (okX12_feed (49, .bipush 8, 2) (List.mem_of_getElem? (i := 27) rfl)) (by decide +kernel) ?_
      refine lv_iload hx hb (okX12_feed (51, .iload 4, 2) (List.mem_of_getElem? (i := 28) rfl)) (lv_at hl 2 rfl) ?_
      refine sk_imul hx hb (okX12_feed (53, .imul, 1) (List.mem_of_getElem? (i := 29) rfl)) ?_
      refine sk_lshr hx hb (okX12_feed (54, .lshr, 1) (List.mem_of_getElem? (i := 30) rfl)) ?_
      refine lv_ldc2 (v := lI 255) hx hb hown (by rw [show lI 255 = (255 : Int64) from by decide +kernel]; exact hL3) (okX12_feed (55, .ldc2_w 164, 3) (List.mem_of_getElem? (i := 31) rfl)) ?_
      refine sk_land hx hb (okX12_feed (58, .land, 1) (List.mem_of_getElem? (i := 32) rfl)) ?_
      refine sk_l2i hx hb (okX12_feed (59, .l2i, 1) (List.mem_of_getElem? (i := 33) rfl)) ?_
      obtain ⟨hi6, hM⟩ := hM
      refine sk_ist S hK hw kdn_167 (kd_in kdn_167) (by rw [lnn_167]; exact hi6) (rI_of _) (okX12_feed (60, .iastore, 1) (List.mem_of_getElem? (i := 34) rfl)) (fun H locs hw => ?_)
      refine lv_aload_n hx hb (okX12_feed (61, .aload_n 0, 1) (List.mem_of_getElem? (i := 35) rfl)) rfl (lv_at hl 0 rfl) ?_
      refine lv_dup hx hb (okX12_feed (62, .dup, 1) (List.mem_of_getElem? (i := 36) rfl)) rfl ?_
      have hr7 := hw.1.2.2 158 15
      refine sk_geti S hK hw kdn_158 (kd_in kdn_158) (C := RX12) (T := TX12) (N := 53) rfl hI12 15 ⟨by decide, rfl, by decide, rfl⟩ rfl (k' := 15) rfl hL1 (okX12_feed (63, .getfield 161, 3) (List.mem_of_getElem? (i := 37) rfl)) ?_
      refine lv_iconst (v := iI 1) hx hb (okX12_feed (66, .iconst 1, 1) (List.mem_of_getElem? (i := 38) rfl)) rfl ?_
      refine sk_iadd hx hb (okX12_feed (67, .iadd, 1) (List.mem_of_getElem? (i := 39) rfl)) ?_
      obtain ⟨hr8, hM⟩ := hM
      refine sk_put S hK hw kdn_158 (kd_in kdn_158) (C := RX12) (T := TX12) (N := 53) rfl hI12 tyX12 tyX12_ok nmX12 15 ⟨by decide, rfl, by decide, rfl⟩ rfl rfl (k' := 15) rfl hr8 ⟨rfl, rfl⟩ hL1 (okX12_feed (68, .putfield 161, 3) (List.mem_of_getElem? (i := 40) rfl)) (fun H locs hw => ?_)
      obtain ⟨hr9, hM⟩ := hM
      obtain ⟨v4_71, ev4_71⟩ : ∃ y : Int, y = v4 + (-1) := ⟨_, rfl⟩
      have hM := hM v4_71 ev4_71
      have hr_v4_71 : rI v4_71 := by rw [ev4_71]; exact hr9
      refine lv_iinc (v := iI v4_71) (lv' := [(4, .int (iI v4_71)), (0, .ref (sk_ad G 158)), (1, .long (lI v1))]) hx hb (okX12_feed (71, .iinc 4 (-1), 3) (List.mem_of_getElem? (i := 41) rfl)) hl (k := 2) rfl (by rw [ev4_71]; exact iI_add _ _) (by decide) rfl (fun ls hl => ?_)
      refine lv_goto (tgt := 35) hx hb (okX12_feed (74, .goto (-39), 3) (List.mem_of_getElem? (i := 42) rfl)) (by decide) ?_
      exact (hX_35 v4_71 (up (up I 167 (I 158 15) (l2i (land (lshr v1 (8 * v4)) 255))) 158 15 (((up I 167 (I 158 15) (l2i (land (lshr v1 (8 * v4)) 255))) 158 15) + 1))).1 hM hr_v4_71 H locs ls hw (lv_sub hl [1, 2, 0] rfl)
  unfold M_Mo_feed at hM
  intro H locs hw
  refine lv_iload_n hx hb (okX12_feed (0, .iload_n 3, 1) (List.mem_of_getElem? (i := 0) rfl)) rfl (lv_at hl 2 rfl) ?_
  refine sk_i2l hx hb hr_p3 (okX12_feed (1, .i2l, 1) (List.mem_of_getElem? (i := 1) rfl)) ?_
  refine lv_lconst (v := lI 1) hx hb (okX12_feed (2, .lconst 1, 1) (List.mem_of_getElem? (i := 2) rfl)) (by decide +kernel) ?_
  refine lv_ldc2 (v := lI 8) hx hb hown (by rw [show lI 8 = (8 : Int64) from by decide +kernel]; exact hL0) (okX12_feed (3, .ldc2_w 159, 3) (List.mem_of_getElem? (i := 3) rfl)) ?_
  refine sk_ci (sk_runS (As := [.long (lI p3), .long (lI 1), .long (lI 8)]) (rest := []) S (c_Mo_isIn l G ⟨Int.le_trans (by decide) (hr_p3).1, Int.lt_trans (hr_p3).2 (by decide)⟩ (by decide) (by decide) hM) sk_blind gX12_feed_X12_isIn rfl hdX12_isIn ⟨⟨rfl, rfl⟩, Nat.le_of_ble_eq_true rfl, Nat.le_of_ble_eq_true rfl⟩ (sk_pre hK hw) rfl hl.1 rfl (Nat.le_of_ble_eq_true rfl) (okX12_feed (6, .invokestatic 150, 3) (List.mem_of_getElem? (i := 4) rfl)) ⟨Nat.zero_le _, Nat.zero_le _⟩) hw (fun r_6 I_6 H locs hr_r_6 hM hw => ?_)
  obtain ⟨hb_r_6, hM⟩ := hM
  refine sk_if_ne (tgt := 15) hx hb hr_r_6 (okX12_feed (9, .ifCond .ne 6, 3) (List.mem_of_getElem? (i := 5) rfl)) (by decide) (fun c9 => ?_) (fun c9 => ?_)
  · have hM := hM.1 c9
    refine lv_aload_n hx hb (okX12_feed (15, .aload_n 0, 1) (List.mem_of_getElem? (i := 8) rfl)) rfl (lv_at hl 0 rfl) ?_
    have hr1 := hw.1.2.2 158 15
    refine sk_geti S hK hw kdn_158 (kd_in kdn_158) (C := RX12) (T := TX12) (N := 53) rfl hI12 15 ⟨by decide, rfl, by decide, rfl⟩ rfl (k' := 15) rfl hL1 (okX12_feed (16, .getfield 161, 3) (List.mem_of_getElem? (i := 9) rfl)) ?_
    refine lv_iload_n hx hb (okX12_feed (19, .iload_n 3, 1) (List.mem_of_getElem? (i := 10) rfl)) rfl (lv_at hl 2 rfl) ?_
    refine sk_iadd hx hb (okX12_feed (20, .iadd, 1) (List.mem_of_getElem? (i := 11) rfl)) ?_
    refine lv_sipush (v := iI 300) hx hb (okX12_feed (21, .sipush 300, 3) (List.mem_of_getElem? (i := 12) rfl)) (by decide +kernel) ?_
    obtain ⟨hr2, hM⟩ := hM
    refine sk_icmp_le (tgt := 30) hx hb hr2 (by decide) (okX12_feed (24, .if_icmp .le 6, 3) (List.mem_of_getElem? (i := 13) rfl)) (by decide) (fun c24 => ?_) (fun c24 => ?_)
    · have hM := hM.1 c24
      refine lv_iload_n hx hb (okX12_feed (30, .iload_n 3, 1) (List.mem_of_getElem? (i := 16) rfl)) rfl (lv_at hl 2 rfl) ?_
      refine lv_iconst (v := iI 1) hx hb (okX12_feed (31, .iconst 1, 1) (List.mem_of_getElem? (i := 17) rfl)) rfl ?_
      refine sk_isub hx hb (okX12_feed (32, .isub, 1) (List.mem_of_getElem? (i := 18) rfl)) ?_
      obtain ⟨hr3, hM⟩ := hM
      refine sk_nm (fun v4_33 ev4_33 => ?_)
      have hM := hM v4_33 ev4_33
      have hr_v4_33 : rI v4_33 := by rw [ev4_33]; exact hr3
      refine lv_istore (lv' := [(4, .int (iI v4_33)), (0, .ref (sk_ad G 158)), (1, .long (lI p1)), (3, .int (iI p3))]) hx hb (okX12_feed (33, .istore 4, 2) (List.mem_of_getElem? (i := 19) rfl)) hl (by decide) rfl (fun ls hl => ?_)
      exact hJ_35 p1 v4_33 I_6 hr_p1 hr_v4_33 hM H locs ls hw (lv_sub hl [1, 2, 0] rfl)
    · have hM := hM.2 c24
      refine lv_bipush (v := iI (-4)) hx hb (okX12_feed (27, .bipush (-4), 2) (List.mem_of_getElem? (i := 14) rfl)) (by decide +kernel) ?_
      exact sk_iret hx hb hr0 hlocks hK hw (by decide) hM (okX12_feed (29, .ireturn, 1) (List.mem_of_getElem? (i := 15) rfl))
  · have hM := hM.2 c9
    refine lv_bipush (v := iI (-2)) hx hb (okX12_feed (12, .bipush (-2), 2) (List.mem_of_getElem? (i := 6) rfl)) (by decide +kernel) ?_
    exact sk_iret hx hb hr0 hlocks hK hw (by decide) hM (okX12_feed (14, .ireturn, 1) (List.mem_of_getElem? (i := 7) rfl))
def rmX12_isDigit : Room := { frames := 0, cells := 0, slots := 0, locals := 0 }
set_option maxHeartbeats 4000000 in
set_option maxRecDepth 100000 in
theorem c_Mo_isDigit (l : Launch) (G : sk_G) {p0 : Int} (hr_p0 : rI p0) {Q : Int → sk_S → Prop} {I : sk_S} (hM : M_Mo_isDigit p0 Q I) : Met l yX12_isDigit wsX12_isDigit rmX12_isDigit (va_Pc [.int (iI p0)] (sk_U G 198 sk_t I)) (sk_Qz G 198 sk_t Q) 0 0 (sk_A G) := by
  refine Met.ofW (cc := cX12_isDigit) (maxL := 1) (ret := (some .boolean)) (by decide) rfl ?_
  intro p e s m args below meth c s₁ B hml hv
  obtain ⟨rfl, hU, hK⟩ := hv
  have hx := B.exec
  have hb := B.bytes
  have hr0 := B.returns
  have hts := atoms_spec (ws := wsX12_isDigit) B.pre
  have hown : s.vm.findClass RX12 = some m.cls := findClass_of_methodNamed B.named
  have hlocks := B.notSynchronized
  have S : CallFix p m c cX12_isDigit 1 s ([.int (iI p0)].toArray) wsX12_isDigit RX12 := ⟨hx, hb, hml, hown, hts⟩
  have hw : sk_W G 198 sk_t I s s.heap [] := ⟨hU, va_S.rf⟩
  have hl := lv_entry ([.int (iI p0)]) (n := 1) (Nat.le_of_ble_eq_true rfl)
  rw [lg_entry_eq]
  generalize (lg_sl ([.int (iI p0)]) ++ List.replicate (1 - (lg_sl ([.int (iI p0)])).length) Slot.unset).toArray = ls at hl ⊢
  have hl : lv_has ls 1 [(0, .int (iI p0))] := hl
  suffices hgo : ∀ (H : Heap) (locs : List Loc), sk_W G 198 sk_t I s H locs → W p l e (headSpec wsX12_isDigit rmX12_isDigit).room s m ([.int (iI p0)].toArray) below meth c H locs 0 0 (MQ below (sk_Qz G 198 sk_t Q) ([.int (iI p0)].toArray) s 0 0 (sk_A G)) (F0 m 0 ls []) from hgo _ _ hw
  unfold M_Mo_isDigit at hM
  intro H locs hw
  refine lv_iload_n hx hb (okX12_isDigit (0, .iload_n 0, 1) (List.mem_of_getElem? (i := 0) rfl)) rfl (lv_at hl 0 rfl) ?_
  refine lv_bipush (v := iI 48) hx hb (okX12_isDigit (1, .bipush 48, 2) (List.mem_of_getElem? (i := 1) rfl)) (by decide +kernel) ?_
  refine sk_icmp_lt (tgt := 16) hx hb hr_p0 (by decide) (okX12_isDigit (3, .if_icmp .lt 13, 3) (List.mem_of_getElem? (i := 2) rfl)) (by decide) (fun c3 => ?_) (fun c3 => ?_)
  · have hM := hM.1 c3
    refine lv_iconst (v := iI 0) hx hb (okX12_isDigit (16, .iconst 0, 1) (List.mem_of_getElem? (i := 8) rfl)) rfl ?_
    exact sk_zret hx hb hr0 hlocks hK hw (Or.inl rfl) hM (okX12_isDigit (17, .ireturn, 1) (List.mem_of_getElem? (i := 9) rfl))
  · have hM := hM.2 c3
    refine lv_iload_n hx hb (okX12_isDigit (6, .iload_n 0, 1) (List.mem_of_getElem? (i := 3) rfl)) rfl (lv_at hl 0 rfl) ?_
    refine lv_bipush (v := iI 57) hx hb (okX12_isDigit (7, .bipush 57, 2) (List.mem_of_getElem? (i := 4) rfl)) (by decide +kernel) ?_
    refine sk_icmp_gt (tgt := 16) hx hb hr_p0 (by decide) (okX12_isDigit (9, .if_icmp .gt 7, 3) (List.mem_of_getElem? (i := 5) rfl)) (by decide) (fun c9 => ?_) (fun c9 => ?_)
    · have hM := hM.1 c9
      refine lv_iconst (v := iI 0) hx hb (okX12_isDigit (16, .iconst 0, 1) (List.mem_of_getElem? (i := 8) rfl)) rfl ?_
      exact sk_zret hx hb hr0 hlocks hK hw (Or.inl rfl) hM (okX12_isDigit (17, .ireturn, 1) (List.mem_of_getElem? (i := 9) rfl))
    · have hM := hM.2 c9
      refine lv_iconst (v := iI 1) hx hb (okX12_isDigit (12, .iconst 1, 1) (List.mem_of_getElem? (i := 6) rfl)) rfl ?_
      refine lv_goto (tgt := 17) hx hb (okX12_isDigit (13, .goto 4, 3) (List.mem_of_getElem? (i := 7) rfl)) (by decide) ?_
      exact sk_zret hx hb hr0 hlocks hK hw (Or.inr rfl) hM (okX12_isDigit (17, .ireturn, 1) (List.mem_of_getElem? (i := 9) rfl))
def rmX12_sign : Room := { frames := 0, cells := 0, slots := 0, locals := 0 }
set_option maxHeartbeats 4000000 in
set_option maxRecDepth 100000 in
theorem c_Mo_sign (l : Launch) (G : sk_G) {Q : Int → sk_S → Prop} {I : sk_S} (hM : M_Mo_sign Q I) : Met l yX12_sign wsX12_sign rmX12_sign (va_Pc [.ref (sk_ad G 158)] (sk_U G 198 sk_t I)) (sk_Qi G 198 sk_t Q) 0 0 (sk_A G) := by
  refine Met.ofW (cc := cX12_sign) (maxL := 1) (ret := (some .int)) (by decide) rfl ?_
  intro p e s m args below meth c s₁ B hml hv
  obtain ⟨rfl, hU, hK⟩ := hv
  have hx := B.exec
  have hb := B.bytes
  have hr0 := B.returns
  have hts := atoms_spec (ws := wsX12_sign) B.pre
  have hown : s.vm.findClass RX12 = some m.cls := findClass_of_methodNamed B.named
  have hlocks := B.notSynchronized
  have S : CallFix p m c cX12_sign 1 s ([.ref (sk_ad G 158)].toArray) wsX12_sign RX12 := ⟨hx, hb, hml, hown, hts⟩
  have hL0 := hts (.fieldLink RX12 166 "SkyLightsModel" "at" "I") (by decide +kernel)
  have hL1 := hts (.fieldLink RX12 161 "SkyLightsModel" "taped" "I") (by decide +kernel)
  have hL2 := hts (.fieldLink RX12 38 "SkyLightsModel" "tape" "[I") (by decide +kernel)
  have hI12 : ∀ w ∈ u_ws RX12 TX12 53, w ∈ wsX12_sign := by decide +kernel
  have hw : sk_W G 198 sk_t I s s.heap [] := ⟨hU, va_S.rf⟩
  have hl := lv_entry ([.ref (sk_ad G 158)]) (n := 1) (Nat.le_of_ble_eq_true rfl)
  rw [lg_entry_eq]
  generalize (lg_sl ([.ref (sk_ad G 158)]) ++ List.replicate (1 - (lg_sl ([.ref (sk_ad G 158)])).length) Slot.unset).toArray = ls at hl ⊢
  have hl : lv_has ls 1 [(0, .ref (sk_ad G 158))] := hl
  suffices hgo : ∀ (H : Heap) (locs : List Loc), sk_W G 198 sk_t I s H locs → W p l e (headSpec wsX12_sign rmX12_sign).room s m ([.ref (sk_ad G 158)].toArray) below meth c H locs 0 0 (MQ below (sk_Qi G 198 sk_t Q) ([.ref (sk_ad G 158)].toArray) s 0 0 (sk_A G)) (F0 m 0 ls []) from hgo _ _ hw
  unfold M_Mo_sign at hM
  intro H locs hw
  refine lv_aload_n hx hb (okX12_sign (0, .aload_n 0, 1) (List.mem_of_getElem? (i := 0) rfl)) rfl (lv_at hl 0 rfl) ?_
  have hr1 := hw.1.2.2 158 16
  refine sk_geti S hK hw kdn_158 (kd_in kdn_158) (C := RX12) (T := TX12) (N := 53) rfl hI12 16 ⟨by decide, rfl, by decide, rfl⟩ rfl (k' := 16) rfl hL0 (okX12_sign (1, .getfield 166, 3) (List.mem_of_getElem? (i := 1) rfl)) ?_
  refine lv_aload_n hx hb (okX12_sign (4, .aload_n 0, 1) (List.mem_of_getElem? (i := 2) rfl)) rfl (lv_at hl 0 rfl) ?_
  have hr2 := hw.1.2.2 158 15
  refine sk_geti S hK hw kdn_158 (kd_in kdn_158) (C := RX12) (T := TX12) (N := 53) rfl hI12 15 ⟨by decide, rfl, by decide, rfl⟩ rfl (k' := 15) rfl hL1 (okX12_sign (5, .getfield 161, 3) (List.mem_of_getElem? (i := 3) rfl)) ?_
  refine sk_icmp_ge (tgt := 23) hx hb hr1 hr2 (okX12_sign (8, .if_icmp .ge 15, 3) (List.mem_of_getElem? (i := 4) rfl)) (by decide) (fun c8 => ?_) (fun c8 => ?_)
  · have hM := hM.1 c8
    refine lv_iconst (v := iI (-1)) hx hb (okX12_sign (23, .iconst (-1), 1) (List.mem_of_getElem? (i := 11) rfl)) rfl ?_
    exact sk_iret hx hb hr0 hlocks hK hw (by decide) hM (okX12_sign (24, .ireturn, 1) (List.mem_of_getElem? (i := 12) rfl))
  · have hM := hM.2 c8
    refine lv_aload_n hx hb (okX12_sign (11, .aload_n 0, 1) (List.mem_of_getElem? (i := 5) rfl)) rfl (lv_at hl 0 rfl) ?_
    refine sk_getr (b := 167) S hK hw kdn_158 (kd_in kdn_158) (C := RX12) (T := TX12) (N := 53) rfl hI12 14 ⟨by decide, rfl, by decide, rfl⟩ rfl (k' := 14) rfl rfl (by decide +kernel) hL2 (okX12_sign (12, .getfield 38, 3) (List.mem_of_getElem? (i := 6) rfl)) ?_
    refine lv_aload_n hx hb (okX12_sign (15, .aload_n 0, 1) (List.mem_of_getElem? (i := 7) rfl)) rfl (lv_at hl 0 rfl) ?_
    have hr3 := hw.1.2.2 158 16
    refine sk_geti S hK hw kdn_158 (kd_in kdn_158) (C := RX12) (T := TX12) (N := 53) rfl hI12 16 ⟨by decide, rfl, by decide, rfl⟩ rfl (k' := 16) rfl hL0 (okX12_sign (16, .getfield 166, 3) (List.mem_of_getElem? (i := 8) rfl)) ?_
    obtain ⟨hi4, hM⟩ := hM
    have hr5 := hw.1.2.2 167 (I 158 16)
    refine sk_ild S hK hw kdn_167 (kd_in kdn_167) (by rw [lnn_167]; exact hi4) (okX12_sign (19, .iaload, 1) (List.mem_of_getElem? (i := 9) rfl)) ?_
    refine lv_goto (tgt := 24) hx hb (okX12_sign (20, .goto 4, 3) (List.mem_of_getElem? (i := 10) rfl)) (by decide) ?_
    exact sk_iret hx hb hr0 hlocks hK hw hr5 hM (okX12_sign (24, .ireturn, 1) (List.mem_of_getElem? (i := 12) rfl))
def rmX12_takes : Room := { frames := 1, cells := 0, slots := 0, locals := 52 }
set_option maxHeartbeats 4000000 in
set_option maxRecDepth 100000 in
theorem c_Mo_takes (l : Launch) (G : sk_G) {p1 : Int} (hr_p1 : rI p1) {Q : Int → sk_S → Prop} {I : sk_S} (hM : M_Mo_takes p1 Q I) : Met l yX12_takes wsX12_takes rmX12_takes (va_Pc [.ref (sk_ad G 158), .int (iI p1)] (sk_U G 198 sk_t I)) (sk_Qz G 198 sk_t Q) 0 0 (sk_A G) := by
  refine Met.ofW (cc := cX12_takes) (maxL := 2) (ret := (some .boolean)) (by decide) rfl ?_
  intro p e s m args below meth c s₁ B hml hv
  obtain ⟨rfl, hU, hK⟩ := hv
  have hx := B.exec
  have hb := B.bytes
  have hr0 := B.returns
  have hts := atoms_spec (ws := wsX12_takes) B.pre
  have hown : s.vm.findClass RX12 = some m.cls := findClass_of_methodNamed B.named
  have hlocks := B.notSynchronized
  have S : CallFix p m c cX12_takes 2 s ([.ref (sk_ad G 158), .int (iI p1)].toArray) wsX12_takes RX12 := ⟨hx, hb, hml, hown, hts⟩
  have hL0 := hts (.fieldLink RX12 166 "SkyLightsModel" "at" "I") (by decide +kernel)
  have hI12 : ∀ w ∈ u_ws RX12 TX12 53, w ∈ wsX12_takes := by decide +kernel
  have hw : sk_W G 198 sk_t I s s.heap [] := ⟨hU, va_S.rf⟩
  have hl := lv_entry ([.ref (sk_ad G 158), .int (iI p1)]) (n := 2) (Nat.le_of_ble_eq_true rfl)
  rw [lg_entry_eq]
  generalize (lg_sl ([.ref (sk_ad G 158), .int (iI p1)]) ++ List.replicate (2 - (lg_sl ([.ref (sk_ad G 158), .int (iI p1)])).length) Slot.unset).toArray = ls at hl ⊢
  have hl : lv_has ls 2 [(0, .ref (sk_ad G 158)), (1, .int (iI p1))] := hl
  suffices hgo : ∀ (H : Heap) (locs : List Loc), sk_W G 198 sk_t I s H locs → W p l e (headSpec wsX12_takes rmX12_takes).room s m ([.ref (sk_ad G 158), .int (iI p1)].toArray) below meth c H locs 0 0 (MQ below (sk_Qz G 198 sk_t Q) ([.ref (sk_ad G 158), .int (iI p1)].toArray) s 0 0 (sk_A G)) (F0 m 0 ls []) from hgo _ _ hw
  unfold M_Mo_takes at hM
  intro H locs hw
  refine lv_aload_n hx hb (okX12_takes (0, .aload_n 0, 1) (List.mem_of_getElem? (i := 0) rfl)) rfl (lv_at hl 0 rfl) ?_
  refine sk_ci (sk_runV (a := 158) (C := RX12) (As := []) (rest := []) S (c_Mo_sign l G hM) sk_blind gX12_takes_X12_sign rfl hdX12_sign ⟨⟨rfl, rfl⟩, Nat.le_of_ble_eq_true rfl, Nat.le_of_ble_eq_true rfl⟩ (sk_recv hK hw kdn_158 (kd_in kdn_158) (by decide) rfl) (sk_pre hK hw) rfl hl.1 rfl (Nat.le_of_ble_eq_true rfl) (okX12_takes (1, .invokevirtual 169, 3) (List.mem_of_getElem? (i := 1) rfl)) ⟨Nat.zero_le _, Nat.zero_le _⟩) hw (fun r_1 I_1 H locs hr_r_1 hM hw => ?_)
  refine lv_iload_n hx hb (okX12_takes (4, .iload_n 1, 1) (List.mem_of_getElem? (i := 2) rfl)) rfl (lv_at hl 1 rfl) ?_
  refine sk_icmp_eq (tgt := 10) hx hb hr_r_1 hr_p1 (okX12_takes (5, .if_icmp .eq 5, 3) (List.mem_of_getElem? (i := 3) rfl)) (by decide) (fun c5 => ?_) (fun c5 => ?_)
  · have hM := hM.1 c5
    refine lv_aload_n hx hb (okX12_takes (10, .aload_n 0, 1) (List.mem_of_getElem? (i := 6) rfl)) rfl (lv_at hl 0 rfl) ?_
    refine lv_dup hx hb (okX12_takes (11, .dup, 1) (List.mem_of_getElem? (i := 7) rfl)) rfl ?_
    have hr1 := hw.1.2.2 158 16
    refine sk_geti S hK hw kdn_158 (kd_in kdn_158) (C := RX12) (T := TX12) (N := 53) rfl hI12 16 ⟨by decide, rfl, by decide, rfl⟩ rfl (k' := 16) rfl hL0 (okX12_takes (12, .getfield 166, 3) (List.mem_of_getElem? (i := 8) rfl)) ?_
    refine lv_iconst (v := iI 1) hx hb (okX12_takes (15, .iconst 1, 1) (List.mem_of_getElem? (i := 9) rfl)) rfl ?_
    refine sk_iadd hx hb (okX12_takes (16, .iadd, 1) (List.mem_of_getElem? (i := 10) rfl)) ?_
    obtain ⟨hr2, hM⟩ := hM
    refine sk_put S hK hw kdn_158 (kd_in kdn_158) (C := RX12) (T := TX12) (N := 53) rfl hI12 tyX12 tyX12_ok nmX12 16 ⟨by decide, rfl, by decide, rfl⟩ rfl rfl (k' := 16) rfl hr2 ⟨rfl, rfl⟩ hL0 (okX12_takes (17, .putfield 166, 3) (List.mem_of_getElem? (i := 11) rfl)) (fun H locs hw => ?_)
    refine lv_iconst (v := iI 1) hx hb (okX12_takes (20, .iconst 1, 1) (List.mem_of_getElem? (i := 12) rfl)) rfl ?_
    exact sk_zret hx hb hr0 hlocks hK hw (Or.inr rfl) hM (okX12_takes (21, .ireturn, 1) (List.mem_of_getElem? (i := 13) rfl))
  · have hM := hM.2 c5
    refine lv_iconst (v := iI 0) hx hb (okX12_takes (8, .iconst 0, 1) (List.mem_of_getElem? (i := 4) rfl)) rfl ?_
    exact sk_zret hx hb hr0 hlocks hK hw (Or.inl rfl) hM (okX12_takes (9, .ireturn, 1) (List.mem_of_getElem? (i := 5) rfl))
