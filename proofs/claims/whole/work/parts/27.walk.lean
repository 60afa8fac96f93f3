def rmX11_mark : Room := { frames := 3, cells := 0, slots := 0, locals := 162 }
set_option maxHeartbeats 4000000 in
set_option maxRecDepth 100000 in
theorem c_Sky_mark (l : Launch) (G : sk_G) {p1 p2 p3 p4 p5 : Int} (hr_p1 : rI p1) (hr_p2 : rI p2) (hr_p3 : rI p3) (hr_p4 : rI p4) (hr_p5 : rI p5) {Q : Int → sk_S → Prop} {I : sk_S} (hM : M_Sky_mark p1 p2 p3 p4 p5 Q I) : Met l yX11_mark wsX11_mark rmX11_mark (va_Pc [.ref (sk_ad G 0), .int (iI p1), .int (iI p2), .int (iI p3), .int (iI p4), .int (iI p5)] (sk_U G 198 sk_t I)) (sk_Qi G 198 sk_t Q) 0 0 (sk_A G) := by
  refine Met.ofW (cc := cX11_mark) (maxL := 6) (ret := (some .int)) (by decide) rfl ?_
  intro p e s m args below meth c s₁ B hml hv
  obtain ⟨rfl, hU, hK⟩ := hv
  have hx := B.exec
  have hb := B.bytes
  have hr0 := B.returns
  have hts := atoms_spec (ws := wsX11_mark) B.pre
  have hown : s.vm.findClass RX11 = some m.cls := findClass_of_methodNamed B.named
  have hlocks := B.notSynchronized
  have S : CallFix p m c cX11_mark 6 s ([.ref (sk_ad G 0), .int (iI p1), .int (iI p2), .int (iI p3), .int (iI p4), .int (iI p5)].toArray) wsX11_mark RX11 := ⟨hx, hb, hml, hown, hts⟩
  have hL0 := hts (.fieldLink RX11 61 "SkyLights" "foreign" "LSkyLights$Foreign;") (by decide +kernel)
  have hI11 : ∀ w ∈ u_ws RX11 TX11 8, w ∈ wsX11_mark := by decide +kernel
  have hw : sk_W G 198 sk_t I s s.heap [] := ⟨hU, va_S.rf⟩
  have hl := lv_entry ([.ref (sk_ad G 0), .int (iI p1), .int (iI p2), .int (iI p3), .int (iI p4), .int (iI p5)]) (n := 6) (Nat.le_of_ble_eq_true rfl)
  rw [lg_entry_eq]
  generalize (lg_sl ([.ref (sk_ad G 0), .int (iI p1), .int (iI p2), .int (iI p3), .int (iI p4), .int (iI p5)]) ++ List.replicate (6 - (lg_sl ([.ref (sk_ad G 0), .int (iI p1), .int (iI p2), .int (iI p3), .int (iI p4), .int (iI p5)])).length) Slot.unset).toArray = ls at hl ⊢
  have hl : lv_has ls 6 [(0, .ref (sk_ad G 0)), (1, .int (iI p1)), (2, .int (iI p2)), (3, .int (iI p3)), (4, .int (iI p4)), (5, .int (iI p5))] := hl
  suffices hgo : ∀ (H : Heap) (locs : List Loc), sk_W G 198 sk_t I s H locs → W p l e (headSpec wsX11_mark rmX11_mark).room s m ([.ref (sk_ad G 0), .int (iI p1), .int (iI p2), .int (iI p3), .int (iI p4), .int (iI p5)].toArray) below meth c H locs 0 0 (MQ below (sk_Qi G 198 sk_t Q) ([.ref (sk_ad G 0), .int (iI p1), .int (iI p2), .int (iI p3), .int (iI p4), .int (iI p5)].toArray) s 0 0 (sk_A G)) (F0 m 0 ls []) from hgo _ _ hw
  unfold M_Sky_mark at hM
  intro H locs hw
  refine lv_iload_n hx hb (okX11_mark (0, .iload_n 1, 1) (List.mem_of_getElem? (i := 0) rfl)) rfl (lv_at hl 1 rfl) ?_
  refine lv_iconst (v := iI 0) hx hb (okX11_mark (1, .iconst 0, 1) (List.mem_of_getElem? (i := 1) rfl)) rfl ?_
  refine lv_bipush (v := iI 9) hx hb (okX11_mark (2, .bipush 9, 2) (List.mem_of_getElem? (i := 2) rfl)) (by decide +kernel) ?_
  refine sk_ci (sk_runS (As := [.int (iI p1), .int (iI 0), .int (iI 9)]) (rest := []) S (c_Sky_isWithin l G hr_p1 (by decide) (by decide) hM) sk_blind gX11_mark_X11_isWithin rfl hdX11_isWithin ⟨⟨rfl, rfl⟩, Nat.le_of_ble_eq_true rfl, Nat.le_of_ble_eq_true rfl⟩ (sk_pre hK hw) rfl hl.1 rfl (Nat.le_of_ble_eq_true rfl) (okX11_mark (4, .invokestatic 70, 3) (List.mem_of_getElem? (i := 3) rfl)) ⟨Nat.zero_le _, Nat.zero_le _⟩) hw (fun r_4 I_4 H locs hr_r_4 hM hw => ?_)
  obtain ⟨hb_r_4, hM⟩ := hM
  refine sk_if_ne (tgt := 12) hx hb hr_r_4 (okX11_mark (7, .ifCond .ne 5, 3) (List.mem_of_getElem? (i := 4) rfl)) (by decide) (fun c7 => ?_) (fun c7 => ?_)
  · have hM := hM.1 c7
    refine lv_iload_n hx hb (okX11_mark (12, .iload_n 2, 1) (List.mem_of_getElem? (i := 7) rfl)) rfl (lv_at hl 2 rfl) ?_
    refine lv_iconst (v := iI 0) hx hb (okX11_mark (13, .iconst 0, 1) (List.mem_of_getElem? (i := 8) rfl)) rfl ?_
    refine lv_sipush (v := iI 999) hx hb (okX11_mark (14, .sipush 999, 3) (List.mem_of_getElem? (i := 9) rfl)) (by decide +kernel) ?_
    refine sk_ci (sk_runS (As := [.int (iI p2), .int (iI 0), .int (iI 999)]) (rest := []) S (c_Sky_isWithin l G hr_p2 (by decide) (by decide) hM) sk_blind gX11_mark_X11_isWithin rfl hdX11_isWithin ⟨⟨rfl, rfl⟩, Nat.le_of_ble_eq_true rfl, Nat.le_of_ble_eq_true rfl⟩ (sk_pre hK hw) rfl hl.1 rfl (Nat.le_of_ble_eq_true rfl) (okX11_mark (17, .invokestatic 70, 3) (List.mem_of_getElem? (i := 10) rfl)) ⟨Nat.zero_le _, Nat.zero_le _⟩) hw (fun r_17 I_17 H locs hr_r_17 hM hw => ?_)
    obtain ⟨hb_r_17, hM⟩ := hM
    refine sk_if_eq (tgt := 35) hx hb hr_r_17 (okX11_mark (20, .ifCond .eq 15, 3) (List.mem_of_getElem? (i := 11) rfl)) (by decide) (fun c20 => ?_) (fun c20 => ?_)
    · have hM := hM.1 c20
      refine lv_bipush (v := iI (-2)) hx hb (okX11_mark (35, .bipush (-2), 2) (List.mem_of_getElem? (i := 18) rfl)) (by decide +kernel) ?_
      exact sk_iret hx hb hr0 hlocks hK hw (by decide) hM (okX11_mark (37, .ireturn, 1) (List.mem_of_getElem? (i := 19) rfl))
    · have hM := hM.2 c20
      refine lv_aload_n hx hb (okX11_mark (23, .aload_n 0, 1) (List.mem_of_getElem? (i := 12) rfl)) rfl (lv_at hl 0 rfl) ?_
      refine sk_getr (b := 149) S hK hw kdn_0 (kd_in kdn_0) (C := RX11) (T := TX11) (N := 8) rfl hI11 7 ⟨by decide, rfl, by decide, rfl⟩ rfl (k' := 7) rfl rfl (by decide +kernel) hL0 (okX11_mark (24, .getfield 61, 3) (List.mem_of_getElem? (i := 13) rfl)) ?_
      refine lv_iload_n hx hb (okX11_mark (27, .iload_n 1, 1) (List.mem_of_getElem? (i := 14) rfl)) rfl (lv_at hl 1 rfl) ?_
      refine lv_iload_n hx hb (okX11_mark (28, .iload_n 2, 1) (List.mem_of_getElem? (i := 15) rfl)) rfl (lv_at hl 2 rfl) ?_
      refine sk_ci (sk_runV (a := 149) (C := RX1) (As := [.int (iI p1), .int (iI p2)]) (rest := []) S (c_Foreign_isBehind l G hr_p1 hr_p2 hM) sk_blind gX11_mark_X1_isBehind rfl hdX1_isBehind ⟨⟨rfl, rfl⟩, Nat.le_of_ble_eq_true rfl, Nat.le_of_ble_eq_true rfl⟩ (sk_recv hK hw kdn_149 (kd_in kdn_149) (by decide) rfl) (sk_pre hK hw) rfl hl.1 rfl (Nat.le_of_ble_eq_true rfl) (okX11_mark (29, .invokevirtual 241, 3) (List.mem_of_getElem? (i := 16) rfl)) ⟨Nat.zero_le _, Nat.zero_le _⟩) hw (fun r_29 I_29 H locs hr_r_29 hM hw => ?_)
      obtain ⟨hb_r_29, hM⟩ := hM
      refine sk_if_ne (tgt := 38) hx hb hr_r_29 (okX11_mark (32, .ifCond .ne 6, 3) (List.mem_of_getElem? (i := 17) rfl)) (by decide) (fun c32 => ?_) (fun c32 => ?_)
      · have hM := hM.1 c32
        refine lv_iload_n hx hb (okX11_mark (38, .iload_n 3, 1) (List.mem_of_getElem? (i := 20) rfl)) rfl (lv_at hl 3 rfl) ?_
        refine sk_ci (sk_runS (As := [.int (iI p3)]) (rest := []) S (c_Sky_isAcross l G hr_p3 hM) sk_blind gX11_mark_X11_isAcross rfl hdX11_isAcross ⟨⟨rfl, rfl⟩, Nat.le_of_ble_eq_true rfl, Nat.le_of_ble_eq_true rfl⟩ (sk_pre hK hw) rfl hl.1 rfl (Nat.le_of_ble_eq_true rfl) (okX11_mark (39, .invokestatic 65, 3) (List.mem_of_getElem? (i := 21) rfl)) ⟨Nat.zero_le _, Nat.zero_le _⟩) hw (fun r_39 I_39 H locs hr_r_39 hM hw => ?_)
        obtain ⟨hb_r_39, hM⟩ := hM
        refine sk_if_eq (tgt := 65) hx hb hr_r_39 (okX11_mark (42, .ifCond .eq 23, 3) (List.mem_of_getElem? (i := 22) rfl)) (by decide) (fun c42 => ?_) (fun c42 => ?_)
        · have hM := hM.1 c42
          refine lv_bipush (v := iI (-2)) hx hb (okX11_mark (65, .bipush (-2), 2) (List.mem_of_getElem? (i := 31) rfl)) (by decide +kernel) ?_
          exact sk_iret hx hb hr0 hlocks hK hw (by decide) hM (okX11_mark (67, .ireturn, 1) (List.mem_of_getElem? (i := 32) rfl))
        · have hM := hM.2 c42
          refine lv_iload hx hb (okX11_mark (45, .iload 4, 2) (List.mem_of_getElem? (i := 23) rfl)) (lv_at hl 4 rfl) ?_
          refine sk_ci (sk_runS (As := [.int (iI p4)]) (rest := []) S (c_Sky_isAcross l G hr_p4 hM) sk_blind gX11_mark_X11_isAcross rfl hdX11_isAcross ⟨⟨rfl, rfl⟩, Nat.le_of_ble_eq_true rfl, Nat.le_of_ble_eq_true rfl⟩ (sk_pre hK hw) rfl hl.1 rfl (Nat.le_of_ble_eq_true rfl) (okX11_mark (47, .invokestatic 65, 3) (List.mem_of_getElem? (i := 24) rfl)) ⟨Nat.zero_le _, Nat.zero_le _⟩) hw (fun r_47 I_47 H locs hr_r_47 hM hw => ?_)
          obtain ⟨hb_r_47, hM⟩ := hM
          refine sk_if_eq (tgt := 65) hx hb hr_r_47 (okX11_mark (50, .ifCond .eq 15, 3) (List.mem_of_getElem? (i := 25) rfl)) (by decide) (fun c50 => ?_) (fun c50 => ?_)
          · have hM := hM.1 c50
            refine lv_bipush (v := iI (-2)) hx hb (okX11_mark (65, .bipush (-2), 2) (List.mem_of_getElem? (i := 31) rfl)) (by decide +kernel) ?_
            exact sk_iret hx hb hr0 hlocks hK hw (by decide) hM (okX11_mark (67, .ireturn, 1) (List.mem_of_getElem? (i := 32) rfl))
          · have hM := hM.2 c50
            refine lv_iload hx hb (okX11_mark (53, .iload 5, 2) (List.mem_of_getElem? (i := 26) rfl)) (lv_at hl 5 rfl) ?_
            refine lv_iconst (v := iI 0) hx hb (okX11_mark (55, .iconst 0, 1) (List.mem_of_getElem? (i := 27) rfl)) rfl ?_
            refine lv_sipush (v := iI 200) hx hb (okX11_mark (56, .sipush 200, 3) (List.mem_of_getElem? (i := 28) rfl)) (by decide +kernel) ?_
            refine sk_ci (sk_runS (As := [.int (iI p5), .int (iI 0), .int (iI 200)]) (rest := []) S (c_Sky_isWithin l G hr_p5 (by decide) (by decide) hM) sk_blind gX11_mark_X11_isWithin rfl hdX11_isWithin ⟨⟨rfl, rfl⟩, Nat.le_of_ble_eq_true rfl, Nat.le_of_ble_eq_true rfl⟩ (sk_pre hK hw) rfl hl.1 rfl (Nat.le_of_ble_eq_true rfl) (okX11_mark (59, .invokestatic 70, 3) (List.mem_of_getElem? (i := 29) rfl)) ⟨Nat.zero_le _, Nat.zero_le _⟩) hw (fun r_59 I_59 H locs hr_r_59 hM hw => ?_)
            obtain ⟨hb_r_59, hM⟩ := hM
            refine sk_if_ne (tgt := 68) hx hb hr_r_59 (okX11_mark (62, .ifCond .ne 6, 3) (List.mem_of_getElem? (i := 30) rfl)) (by decide) (fun c62 => ?_) (fun c62 => ?_)
            · have hM := hM.1 c62
              refine lv_aload_n hx hb (okX11_mark (68, .aload_n 0, 1) (List.mem_of_getElem? (i := 33) rfl)) rfl (lv_at hl 0 rfl) ?_
              refine sk_getr (b := 149) S hK hw kdn_0 (kd_in kdn_0) (C := RX11) (T := TX11) (N := 8) rfl hI11 7 ⟨by decide, rfl, by decide, rfl⟩ rfl (k' := 7) rfl rfl (by decide +kernel) hL0 (okX11_mark (69, .getfield 61, 3) (List.mem_of_getElem? (i := 34) rfl)) ?_
              refine sk_ci (sk_runV (a := 149) (C := RX1) (As := []) (rest := []) S (c_Foreign_size l G hM) sk_blind gX11_mark_X1_size rfl hdX1_size ⟨⟨rfl, rfl⟩, Nat.le_of_ble_eq_true rfl, Nat.le_of_ble_eq_true rfl⟩ (sk_recv hK hw kdn_149 (kd_in kdn_149) (by decide) rfl) (sk_pre hK hw) rfl hl.1 rfl (Nat.le_of_ble_eq_true rfl) (okX11_mark (72, .invokevirtual 245, 3) (List.mem_of_getElem? (i := 35) rfl)) ⟨Nat.zero_le _, Nat.zero_le _⟩) hw (fun r_72 I_72 H locs hr_r_72 hM hw => ?_)
              refine lv_sipush (v := iI 200) hx hb (okX11_mark (75, .sipush 200, 3) (List.mem_of_getElem? (i := 36) rfl)) (by decide +kernel) ?_
              refine sk_icmp_lt (tgt := 84) hx hb hr_r_72 (by decide) (okX11_mark (78, .if_icmp .lt 6, 3) (List.mem_of_getElem? (i := 37) rfl)) (by decide) (fun c78 => ?_) (fun c78 => ?_)
              · have hM := hM.1 c78
                refine lv_aload_n hx hb (okX11_mark (84, .aload_n 0, 1) (List.mem_of_getElem? (i := 40) rfl)) rfl (lv_at hl 0 rfl) ?_
                refine sk_getr (b := 149) S hK hw kdn_0 (kd_in kdn_0) (C := RX11) (T := TX11) (N := 8) rfl hI11 7 ⟨by decide, rfl, by decide, rfl⟩ rfl (k' := 7) rfl rfl (by decide +kernel) hL0 (okX11_mark (85, .getfield 61, 3) (List.mem_of_getElem? (i := 41) rfl)) ?_
                refine lv_iload_n hx hb (okX11_mark (88, .iload_n 1, 1) (List.mem_of_getElem? (i := 42) rfl)) rfl (lv_at hl 1 rfl) ?_
                refine lv_iload_n hx hb (okX11_mark (89, .iload_n 2, 1) (List.mem_of_getElem? (i := 43) rfl)) rfl (lv_at hl 2 rfl) ?_
                refine lv_iload_n hx hb (okX11_mark (90, .iload_n 3, 1) (List.mem_of_getElem? (i := 44) rfl)) rfl (lv_at hl 3 rfl) ?_
                refine lv_iload hx hb (okX11_mark (91, .iload 4, 2) (List.mem_of_getElem? (i := 45) rfl)) (lv_at hl 4 rfl) ?_
                refine lv_iload hx hb (okX11_mark (93, .iload 5, 2) (List.mem_of_getElem? (i := 46) rfl)) (lv_at hl 5 rfl) ?_
                refine sk_cv (sk_runV (a := 149) (C := RX1) (As := [.int (iI p1), .int (iI p2), .int (iI p3), .int (iI p4), .int (iI p5)]) (rest := []) S (c_Foreign_add l G hr_p1 hr_p2 hr_p3 hr_p4 hr_p5 hM) sk_blind gX11_mark_X1_add rfl hdX1_add ⟨⟨rfl, rfl⟩, Nat.le_of_ble_eq_true rfl, Nat.le_of_ble_eq_true rfl⟩ (sk_recv hK hw kdn_149 (kd_in kdn_149) (by decide) rfl) (sk_pre hK hw) rfl hl.1 rfl (Nat.le_of_ble_eq_true rfl) (okX11_mark (95, .invokevirtual 246, 3) (List.mem_of_getElem? (i := 47) rfl)) ⟨Nat.zero_le _, Nat.zero_le _⟩) hw (fun I_95 H locs hM hw => ?_)
                refine lv_aload_n hx hb (okX11_mark (98, .aload_n 0, 1) (List.mem_of_getElem? (i := 48) rfl)) rfl (lv_at hl 0 rfl) ?_
                refine sk_getr (b := 149) S hK hw kdn_0 (kd_in kdn_0) (C := RX11) (T := TX11) (N := 8) rfl hI11 7 ⟨by decide, rfl, by decide, rfl⟩ rfl (k' := 7) rfl rfl (by decide +kernel) hL0 (okX11_mark (99, .getfield 61, 3) (List.mem_of_getElem? (i := 49) rfl)) ?_
                refine sk_ci (sk_runV (a := 149) (C := RX1) (As := []) (rest := []) S (c_Foreign_size l G hM) sk_blind gX11_mark_X1_size rfl hdX1_size ⟨⟨rfl, rfl⟩, Nat.le_of_ble_eq_true rfl, Nat.le_of_ble_eq_true rfl⟩ (sk_recv hK hw kdn_149 (kd_in kdn_149) (by decide) rfl) (sk_pre hK hw) rfl hl.1 rfl (Nat.le_of_ble_eq_true rfl) (okX11_mark (102, .invokevirtual 245, 3) (List.mem_of_getElem? (i := 50) rfl)) ⟨Nat.zero_le _, Nat.zero_le _⟩) hw (fun r_102 I_102 H locs hr_r_102 hM hw => ?_)
                exact sk_iret hx hb hr0 hlocks hK hw hr_r_102 hM (okX11_mark (105, .ireturn, 1) (List.mem_of_getElem? (i := 51) rfl))
              · have hM := hM.2 c78
                refine lv_bipush (v := iI (-4)) hx hb (okX11_mark (81, .bipush (-4), 2) (List.mem_of_getElem? (i := 38) rfl)) (by decide +kernel) ?_
                exact sk_iret hx hb hr0 hlocks hK hw (by decide) hM (okX11_mark (83, .ireturn, 1) (List.mem_of_getElem? (i := 39) rfl))
            · have hM := hM.2 c62
              refine lv_bipush (v := iI (-2)) hx hb (okX11_mark (65, .bipush (-2), 2) (List.mem_of_getElem? (i := 31) rfl)) (by decide +kernel) ?_
              exact sk_iret hx hb hr0 hlocks hK hw (by decide) hM (okX11_mark (67, .ireturn, 1) (List.mem_of_getElem? (i := 32) rfl))
      · have hM := hM.2 c32
        refine lv_bipush (v := iI (-2)) hx hb (okX11_mark (35, .bipush (-2), 2) (List.mem_of_getElem? (i := 18) rfl)) (by decide +kernel) ?_
        exact sk_iret hx hb hr0 hlocks hK hw (by decide) hM (okX11_mark (37, .ireturn, 1) (List.mem_of_getElem? (i := 19) rfl))
  · have hM := hM.2 c7
    refine lv_iconst (v := iI (-1)) hx hb (okX11_mark (10, .iconst (-1), 1) (List.mem_of_getElem? (i := 5) rfl)) rfl ?_
    exact sk_iret hx hb hr0 hlocks hK hw (by decide) hM (okX11_mark (11, .ireturn, 1) (List.mem_of_getElem? (i := 6) rfl))
def rmX11_part : Room := { frames := 13, cells := 0, slots := 0, locals := 752 }
set_option maxHeartbeats 4000000 in
set_option maxRecDepth 100000 in
theorem c_Sky_part (l : Launch) (G : sk_G) {Q : Int → sk_S → Prop} {I : sk_S} (hM : M_Sky_part Q I) : Met l yX11_part wsX11_part rmX11_part (va_Pc [.ref (sk_ad G 0)] (sk_U G 198 sk_t I)) (sk_Qi G 198 sk_t Q) 0 0 (sk_A G) := by
  refine Met.ofW (cc := cX11_part) (maxL := 2) (ret := (some .int)) (by decide) rfl ?_
  intro p e s m args below meth c s₁ B hml hv
  obtain ⟨rfl, hU, hK⟩ := hv
  have hx := B.exec
  have hb := B.bytes
  have hr0 := B.returns
  have hts := atoms_spec (ws := wsX11_part) B.pre
  have hown : s.vm.findClass RX11 = some m.cls := findClass_of_methodNamed B.named
  have hlocks := B.notSynchronized
  have S : CallFix p m c cX11_part 2 s ([.ref (sk_ad G 0)].toArray) wsX11_part RX11 := ⟨hx, hb, hml, hown, hts⟩
  have hL0 := hts (.fieldLink RX11 40 "SkyLights" "latest" "LSkyLights$Pass;") (by decide +kernel)
  have hL1 := hts (.fieldLink RX11 26 "SkyLights" "air" "LSkyLights$Air;") (by decide +kernel)
  have hL2 := hts (.fieldLink RX11 47 "SkyLights" "parting" "LSkyLights$Parting;") (by decide +kernel)
  have hI0 : ∀ w ∈ u_ws RX0 TX0 4, w ∈ wsX11_part := by decide +kernel
  have hI11 : ∀ w ∈ u_ws RX11 TX11 8, w ∈ wsX11_part := by decide +kernel
  have hw : sk_W G 198 sk_t I s s.heap [] := ⟨hU, va_S.rf⟩
  have hl := lv_entry ([.ref (sk_ad G 0)]) (n := 2) (Nat.le_of_ble_eq_true rfl)
  rw [lg_entry_eq]
  generalize (lg_sl ([.ref (sk_ad G 0)]) ++ List.replicate (2 - (lg_sl ([.ref (sk_ad G 0)])).length) Slot.unset).toArray = ls at hl ⊢
  have hl : lv_has ls 2 [(0, .ref (sk_ad G 0))] := hl
  suffices hgo : ∀ (H : Heap) (locs : List Loc), sk_W G 198 sk_t I s H locs → W p l e (headSpec wsX11_part rmX11_part).room s m ([.ref (sk_ad G 0)].toArray) below meth c H locs 0 0 (MQ below (sk_Qi G 198 sk_t Q) ([.ref (sk_ad G 0)].toArray) s 0 0 (sk_A G)) (F0 m 0 ls []) from hgo _ _ hw
  unfold M_Sky_part at hM
  intro H locs hw
  refine lv_aload_n hx hb (okX11_part (0, .aload_n 0, 1) (List.mem_of_getElem? (i := 0) rfl)) rfl (lv_at hl 0 rfl) ?_
  refine sk_getr (b := 44) S hK hw kdn_0 (kd_in kdn_0) (C := RX11) (T := TX11) (N := 8) rfl hI11 4 ⟨by decide, rfl, by decide, rfl⟩ rfl (k' := 4) rfl rfl (by decide +kernel) hL0 (okX11_part (1, .getfield 40, 3) (List.mem_of_getElem? (i := 1) rfl)) ?_
  refine sk_ci (sk_runV (a := 44) (C := RX4) (As := []) (rest := []) S (c_Pass_size l G kdn_44 hM) sk_blind gX11_part_X4_size rfl hdX4_size ⟨⟨rfl, rfl⟩, Nat.le_of_ble_eq_true rfl, Nat.le_of_ble_eq_true rfl⟩ (sk_recv hK hw kdn_44 (kd_in kdn_44) (by decide) rfl) (sk_pre hK hw) rfl hl.1 rfl (Nat.le_of_ble_eq_true rfl) (okX11_part (4, .invokevirtual 173, 3) (List.mem_of_getElem? (i := 2) rfl)) ⟨Nat.zero_le _, Nat.zero_le _⟩) hw (fun r_4 I_4 H locs hr_r_4 hM hw => ?_)
  refine sk_if_eq (tgt := 24) hx hb hr_r_4 (okX11_part (7, .ifCond .eq 17, 3) (List.mem_of_getElem? (i := 3) rfl)) (by decide) (fun c7 => ?_) (fun c7 => ?_)
  · have hM := hM.1 c7
    refine lv_bipush (v := iI (-3)) hx hb (okX11_part (24, .bipush (-3), 2) (List.mem_of_getElem? (i := 10) rfl)) (by decide +kernel) ?_
    exact sk_iret hx hb hr0 hlocks hK hw (by decide) hM (okX11_part (26, .ireturn, 1) (List.mem_of_getElem? (i := 11) rfl))
  · have hM := hM.2 c7
    refine lv_aload_n hx hb (okX11_part (10, .aload_n 0, 1) (List.mem_of_getElem? (i := 4) rfl)) rfl (lv_at hl 0 rfl) ?_
    refine sk_getr (b := 44) S hK hw kdn_0 (kd_in kdn_0) (C := RX11) (T := TX11) (N := 8) rfl hI11 4 ⟨by decide, rfl, by decide, rfl⟩ rfl (k' := 4) rfl rfl (by decide +kernel) hL0 (okX11_part (11, .getfield 40, 3) (List.mem_of_getElem? (i := 5) rfl)) ?_
    refine lv_aload_n hx hb (okX11_part (14, .aload_n 0, 1) (List.mem_of_getElem? (i := 6) rfl)) rfl (lv_at hl 0 rfl) ?_
    refine sk_getr (b := 36) S hK hw kdn_0 (kd_in kdn_0) (C := RX11) (T := TX11) (N := 8) rfl hI11 2 ⟨by decide, rfl, by decide, rfl⟩ rfl (k' := 2) rfl rfl (by decide +kernel) hL1 (okX11_part (15, .getfield 26, 3) (List.mem_of_getElem? (i := 7) rfl)) ?_
    refine sk_ci (sk_runV (a := 44) (C := RX4) (As := [.ref (sk_ad G 36)]) (rest := []) S (c_Pass_isAnyInZone l G kdn_44 hM) sk_blind gX11_part_X4_isAnyInZone rfl hdX4_isAnyInZone ⟨⟨rfl, rfl⟩, Nat.le_of_ble_eq_true rfl, Nat.le_of_ble_eq_true rfl⟩ (sk_recv hK hw kdn_44 (kd_in kdn_44) (by decide) rfl) (sk_pre hK hw) rfl hl.1 rfl (Nat.le_of_ble_eq_true rfl) (okX11_part (18, .invokevirtual 178, 3) (List.mem_of_getElem? (i := 8) rfl)) ⟨Nat.zero_le _, Nat.zero_le _⟩) hw (fun r_18 I_18 H locs hr_r_18 hM hw => ?_)
    obtain ⟨hb_r_18, hM⟩ := hM
    refine sk_if_eq (tgt := 27) hx hb hr_r_18 (okX11_part (21, .ifCond .eq 6, 3) (List.mem_of_getElem? (i := 9) rfl)) (by decide) (fun c21 => ?_) (fun c21 => ?_)
    · have hM := hM.1 c21
      refine lv_aload_n hx hb (okX11_part (27, .aload_n 0, 1) (List.mem_of_getElem? (i := 12) rfl)) rfl (lv_at hl 0 rfl) ?_
      refine sk_getr (b := 47) S hK hw kdn_0 (kd_in kdn_0) (C := RX11) (T := TX11) (N := 8) rfl hI11 5 ⟨by decide, rfl, by decide, rfl⟩ rfl (k' := 5) rfl rfl (by decide +kernel) hL2 (okX11_part (28, .getfield 47, 3) (List.mem_of_getElem? (i := 13) rfl)) ?_
      refine lv_aload_n hx hb (okX11_part (31, .aload_n 0, 1) (List.mem_of_getElem? (i := 14) rfl)) rfl (lv_at hl 0 rfl) ?_
      refine sk_getr (b := 44) S hK hw kdn_0 (kd_in kdn_0) (C := RX11) (T := TX11) (N := 8) rfl hI11 4 ⟨by decide, rfl, by decide, rfl⟩ rfl (k' := 4) rfl rfl (by decide +kernel) hL0 (okX11_part (32, .getfield 40, 3) (List.mem_of_getElem? (i := 15) rfl)) ?_
      refine lv_aload_n hx hb (okX11_part (35, .aload_n 0, 1) (List.mem_of_getElem? (i := 16) rfl)) rfl (lv_at hl 0 rfl) ?_
      refine sk_getr (b := 36) S hK hw kdn_0 (kd_in kdn_0) (C := RX11) (T := TX11) (N := 8) rfl hI11 2 ⟨by decide, rfl, by decide, rfl⟩ rfl (k' := 2) rfl rfl (by decide +kernel) hL1 (okX11_part (36, .getfield 26, 3) (List.mem_of_getElem? (i := 17) rfl)) ?_
      have hr1 := hw.1.2.2 36 0
      refine sk_getiN S hK hw kdn_36 (kd_in kdn_36) (C := RX0) (T := TX0) (N := 4) rfl hI0 0 ⟨by decide, rfl, by decide, rfl⟩ rfl (k' := 0) rfl (va_Nw.use rfl (hK.2.1 ("SkyLights", 134, "SkyLights$Air", "gap", "I") (by decide +kernel))) (okX11_part (39, .getfield 134, 3) (List.mem_of_getElem? (i := 18) rfl)) ?_
      refine sk_ci (sk_runV (a := 47) (C := RX3) (As := [.ref (sk_ad G 44), .int (iI (I_18 36 0))]) (rest := []) S (c_Parting_settle l G kdn_44 hr1 hM) sk_blind gX11_part_X3_settle rfl hdX3_settle ⟨⟨rfl, rfl⟩, Nat.le_of_ble_eq_true rfl, Nat.le_of_ble_eq_true rfl⟩ (sk_recv hK hw kdn_47 (kd_in kdn_47) (by decide) rfl) (sk_pre hK hw) rfl hl.1 rfl (Nat.le_of_ble_eq_true rfl) (okX11_part (42, .invokevirtual 181, 3) (List.mem_of_getElem? (i := 19) rfl)) ⟨Nat.zero_le _, Nat.zero_le _⟩) hw (fun r_42 I_42 H locs hr_r_42 hM hw => ?_)
      refine lv_istore_n (lv' := [(1, .int (iI r_42)), (0, .ref (sk_ad G 0))]) hx hb (okX11_part (45, .istore_n 1, 1) (List.mem_of_getElem? (i := 20) rfl)) rfl hl (by decide) rfl (fun ls hl => ?_)
      refine lv_iload_n hx hb (okX11_part (46, .iload_n 1, 1) (List.mem_of_getElem? (i := 21) rfl)) rfl (lv_at hl 0 rfl) ?_
      refine lv_iconst (v := iI (-1)) hx hb (okX11_part (47, .iconst (-1), 1) (List.mem_of_getElem? (i := 22) rfl)) rfl ?_
      refine sk_icmp_ne (tgt := 56) hx hb hr_r_42 (by decide) (okX11_part (48, .if_icmp .ne 8, 3) (List.mem_of_getElem? (i := 23) rfl)) (by decide) (fun c48 => ?_) (fun c48 => ?_)
      · have hM := hM.1 c48
        refine lv_iload_n hx hb (okX11_part (56, .iload_n 1, 1) (List.mem_of_getElem? (i := 26) rfl)) rfl (lv_at hl 0 rfl) ?_
        exact sk_iret hx hb hr0 hlocks hK hw hr_r_42 hM (okX11_part (57, .ireturn, 1) (List.mem_of_getElem? (i := 27) rfl))
      · have hM := hM.2 c48
        refine lv_bipush (v := iI (-3)) hx hb (okX11_part (51, .bipush (-3), 2) (List.mem_of_getElem? (i := 24) rfl)) (by decide +kernel) ?_
        refine lv_goto (tgt := 57) hx hb (okX11_part (53, .goto 4, 3) (List.mem_of_getElem? (i := 25) rfl)) (by decide) ?_
        exact sk_iret hx hb hr0 hlocks hK hw (by decide) hM (okX11_part (57, .ireturn, 1) (List.mem_of_getElem? (i := 27) rfl))
    · have hM := hM.2 c21
      refine lv_bipush (v := iI (-3)) hx hb (okX11_part (24, .bipush (-3), 2) (List.mem_of_getElem? (i := 10) rfl)) (by decide +kernel) ?_
      exact sk_iret hx hb hr0 hlocks hK hw (by decide) hM (okX11_part (26, .ireturn, 1) (List.mem_of_getElem? (i := 11) rfl))
def rmX11_pass : Room := { frames := 6, cells := 0, slots := 0, locals := 337 }
set_option maxHeartbeats 4000000 in
set_option maxRecDepth 100000 in
theorem c_Sky_pass (l : Launch) (G : sk_G) {p1 p2 p3 : Int} (hr_p1 : rI p1) (hr_p2 : rI p2) (hr_p3 : rI p3) {Q : Int → sk_S → Prop} {I : sk_S} (hM : M_Sky_pass p1 p2 p3 Q I) : Met l yX11_pass wsX11_pass rmX11_pass (va_Pc [.ref (sk_ad G 0), .int (iI p1), .int (iI p2), .int (iI p3)] (sk_U G 198 sk_t I)) (sk_Qi G 198 sk_t Q) 0 0 (sk_A G) := by
  refine Met.ofW (cc := cX11_pass) (maxL := 5) (ret := (some .int)) (by decide) rfl ?_
  intro p e s m args below meth c s₁ B hml hv
  obtain ⟨rfl, hU, hK⟩ := hv
  have hx := B.exec
  have hb := B.bytes
  have hr0 := B.returns
  have hts := atoms_spec (ws := wsX11_pass) B.pre
  have hown : s.vm.findClass RX11 = some m.cls := findClass_of_methodNamed B.named
  have hlocks := B.notSynchronized
  have S : CallFix p m c cX11_pass 5 s ([.ref (sk_ad G 0), .int (iI p1), .int (iI p2), .int (iI p3)].toArray) wsX11_pass RX11 := ⟨hx, hb, hml, hown, hts⟩
  have hL0 := hts (.fieldLink RX11 19 "SkyLights" "gallery" "LSkyLights$Gallery;") (by decide +kernel)
  have hL1 := hts (.fieldLink RX11 40 "SkyLights" "latest" "LSkyLights$Pass;") (by decide +kernel)
  have hL2 := hts (.fieldLink RX11 33 "SkyLights" "planner" "LSkyLights$Planner;") (by decide +kernel)
  have hI11 : ∀ w ∈ u_ws RX11 TX11 8, w ∈ wsX11_pass := by decide +kernel
  have hw : sk_W G 198 sk_t I s s.heap [] := ⟨hU, va_S.rf⟩
  have hl := lv_entry ([.ref (sk_ad G 0), .int (iI p1), .int (iI p2), .int (iI p3)]) (n := 5) (Nat.le_of_ble_eq_true rfl)
  rw [lg_entry_eq]
  generalize (lg_sl ([.ref (sk_ad G 0), .int (iI p1), .int (iI p2), .int (iI p3)]) ++ List.replicate (5 - (lg_sl ([.ref (sk_ad G 0), .int (iI p1), .int (iI p2), .int (iI p3)])).length) Slot.unset).toArray = ls at hl ⊢
  have hl : lv_has ls 5 [(0, .ref (sk_ad G 0)), (1, .int (iI p1)), (2, .int (iI p2)), (3, .int (iI p3))] := hl
  suffices hgo : ∀ (H : Heap) (locs : List Loc), sk_W G 198 sk_t I s H locs → W p l e (headSpec wsX11_pass rmX11_pass).room s m ([.ref (sk_ad G 0), .int (iI p1), .int (iI p2), .int (iI p3)].toArray) below meth c H locs 0 0 (MQ below (sk_Qi G 198 sk_t Q) ([.ref (sk_ad G 0), .int (iI p1), .int (iI p2), .int (iI p3)].toArray) s 0 0 (sk_A G)) (F0 m 0 ls []) from hgo _ _ hw
  unfold M_Sky_pass at hM
  intro H locs hw
  refine lv_aload_n hx hb (okX11_pass (0, .aload_n 0, 1) (List.mem_of_getElem? (i := 0) rfl)) rfl (lv_at hl 0 rfl) ?_
  refine lv_iload_n hx hb (okX11_pass (1, .iload_n 1, 1) (List.mem_of_getElem? (i := 1) rfl)) rfl (lv_at hl 1 rfl) ?_
  refine sk_ci (sk_runV (a := 0) (C := RX11) (As := [.int (iI p1)]) (rest := []) S (c_Sky_isPicture l G hr_p1 hM) sk_blind gX11_pass_X11_isPicture rfl hdX11_isPicture ⟨⟨rfl, rfl⟩, Nat.le_of_ble_eq_true rfl, Nat.le_of_ble_eq_true rfl⟩ (sk_recv hK hw kdn_0 (kd_in kdn_0) (by decide) rfl) (sk_pre hK hw) rfl hl.1 rfl (Nat.le_of_ble_eq_true rfl) (okX11_pass (2, .invokevirtual 147, 3) (List.mem_of_getElem? (i := 2) rfl)) ⟨Nat.zero_le _, Nat.zero_le _⟩) hw (fun r_2 I_2 H locs hr_r_2 hM hw => ?_)
  obtain ⟨hb_r_2, hM⟩ := hM
  refine sk_if_eq (tgt := 16) hx hb hr_r_2 (okX11_pass (5, .ifCond .eq 11, 3) (List.mem_of_getElem? (i := 3) rfl)) (by decide) (fun c5 => ?_) (fun c5 => ?_)
  · have hM := hM.1 c5
    refine lv_iconst (v := iI (-1)) hx hb (okX11_pass (16, .iconst (-1), 1) (List.mem_of_getElem? (i := 8) rfl)) rfl ?_
    exact sk_iret hx hb hr0 hlocks hK hw (by decide) hM (okX11_pass (17, .ireturn, 1) (List.mem_of_getElem? (i := 9) rfl))
  · have hM := hM.2 c5
    refine lv_aload_n hx hb (okX11_pass (8, .aload_n 0, 1) (List.mem_of_getElem? (i := 4) rfl)) rfl (lv_at hl 0 rfl) ?_
    refine lv_iload_n hx hb (okX11_pass (9, .iload_n 2, 1) (List.mem_of_getElem? (i := 5) rfl)) rfl (lv_at hl 2 rfl) ?_
    refine sk_ci (sk_runV (a := 0) (C := RX11) (As := [.int (iI p2)]) (rest := []) S (c_Sky_isPicture l G hr_p2 hM) sk_blind gX11_pass_X11_isPicture rfl hdX11_isPicture ⟨⟨rfl, rfl⟩, Nat.le_of_ble_eq_true rfl, Nat.le_of_ble_eq_true rfl⟩ (sk_recv hK hw kdn_0 (kd_in kdn_0) (by decide) rfl) (sk_pre hK hw) rfl hl.1 rfl (Nat.le_of_ble_eq_true rfl) (okX11_pass (10, .invokevirtual 147, 3) (List.mem_of_getElem? (i := 6) rfl)) ⟨Nat.zero_le _, Nat.zero_le _⟩) hw (fun r_10 I_10 H locs hr_r_10 hM hw => ?_)
    obtain ⟨hb_r_10, hM⟩ := hM
    refine sk_if_ne (tgt := 18) hx hb hr_r_10 (okX11_pass (13, .ifCond .ne 5, 3) (List.mem_of_getElem? (i := 7) rfl)) (by decide) (fun c13 => ?_) (fun c13 => ?_)
    · have hM := hM.1 c13
      refine lv_iload_n hx hb (okX11_pass (18, .iload_n 3, 1) (List.mem_of_getElem? (i := 10) rfl)) rfl (lv_at hl 3 rfl) ?_
      refine lv_iconst (v := iI 1) hx hb (okX11_pass (19, .iconst 1, 1) (List.mem_of_getElem? (i := 11) rfl)) rfl ?_
      refine lv_bipush (v := iI 30) hx hb (okX11_pass (20, .bipush 30, 2) (List.mem_of_getElem? (i := 12) rfl)) (by decide +kernel) ?_
      refine sk_ci (sk_runS (As := [.int (iI p3), .int (iI 1), .int (iI 30)]) (rest := []) S (c_Sky_isWithin l G hr_p3 (by decide) (by decide) hM) sk_blind gX11_pass_X11_isWithin rfl hdX11_isWithin ⟨⟨rfl, rfl⟩, Nat.le_of_ble_eq_true rfl, Nat.le_of_ble_eq_true rfl⟩ (sk_pre hK hw) rfl hl.1 rfl (Nat.le_of_ble_eq_true rfl) (okX11_pass (22, .invokestatic 70, 3) (List.mem_of_getElem? (i := 13) rfl)) ⟨Nat.zero_le _, Nat.zero_le _⟩) hw (fun r_22 I_22 H locs hr_r_22 hM hw => ?_)
      obtain ⟨hb_r_22, hM⟩ := hM
      refine sk_if_ne (tgt := 31) hx hb hr_r_22 (okX11_pass (25, .ifCond .ne 6, 3) (List.mem_of_getElem? (i := 14) rfl)) (by decide) (fun c25 => ?_) (fun c25 => ?_)
      · have hM := hM.1 c25
        refine lv_aload_n hx hb (okX11_pass (31, .aload_n 0, 1) (List.mem_of_getElem? (i := 17) rfl)) rfl (lv_at hl 0 rfl) ?_
        refine sk_getr (b := 4) S hK hw kdn_0 (kd_in kdn_0) (C := RX11) (T := TX11) (N := 8) rfl hI11 1 ⟨by decide, rfl, by decide, rfl⟩ rfl (k' := 1) rfl rfl (by decide +kernel) hL0 (okX11_pass (32, .getfield 19, 3) (List.mem_of_getElem? (i := 18) rfl)) ?_
        refine lv_iload_n hx hb (okX11_pass (35, .iload_n 1, 1) (List.mem_of_getElem? (i := 19) rfl)) rfl (lv_at hl 1 rfl) ?_
        refine sk_cr (sk_runV (a := 4) (C := RX2) (As := [.int (iI p1)]) (rest := []) S (c_Gallery_at l G hr_p1 hM) sk_blind gX11_pass_X2_at rfl hdX2_at ⟨⟨rfl, rfl⟩, Nat.le_of_ble_eq_true rfl, Nat.le_of_ble_eq_true rfl⟩ (sk_recv hK hw kdn_4 (kd_in kdn_4) (by decide) rfl) (sk_pre hK hw) rfl hl.1 rfl (Nat.le_of_ble_eq_true rfl) (okX11_pass (36, .invokevirtual 81, 3) (List.mem_of_getElem? (i := 20) rfl)) ⟨Nat.zero_le _, Nat.zero_le _⟩) hw (fun r_36 I_36 H locs hk_r_36 hM hw => ?_)
        refine sk_ci (sk_runV (a := r_36) (C := RX5) (As := []) (rest := []) S (c_Places_size l G hk_r_36 hM) sk_blind gX11_pass_X5_size rfl hdX5_size ⟨⟨rfl, rfl⟩, Nat.le_of_ble_eq_true rfl, Nat.le_of_ble_eq_true rfl⟩ (sk_recv hK hw hk_r_36 (kd_in hk_r_36) (by decide) rfl) (sk_pre hK hw) rfl hl.1 rfl (Nat.le_of_ble_eq_true rfl) (okX11_pass (39, .invokevirtual 117, 3) (List.mem_of_getElem? (i := 21) rfl)) ⟨Nat.zero_le _, Nat.zero_le _⟩) hw (fun r_39 I_39 H locs hr_r_39 hM hw => ?_)
        refine lv_istore (lv' := [(4, .int (iI r_39)), (0, .ref (sk_ad G 0)), (1, .int (iI p1)), (2, .int (iI p2)), (3, .int (iI p3))]) hx hb (okX11_pass (42, .istore 4, 2) (List.mem_of_getElem? (i := 22) rfl)) hl (by decide) rfl (fun ls hl => ?_)
        refine lv_iload hx hb (okX11_pass (44, .iload 4, 2) (List.mem_of_getElem? (i := 23) rfl)) (lv_at hl 0 rfl) ?_
        refine sk_if_eq (tgt := 65) hx hb hr_r_39 (okX11_pass (46, .ifCond .eq 19, 3) (List.mem_of_getElem? (i := 24) rfl)) (by decide) (fun c46 => ?_) (fun c46 => ?_)
        · have hM := hM.1 c46
          refine lv_bipush (v := iI (-3)) hx hb (okX11_pass (65, .bipush (-3), 2) (List.mem_of_getElem? (i := 32) rfl)) (by decide +kernel) ?_
          exact sk_iret hx hb hr0 hlocks hK hw (by decide) hM (okX11_pass (67, .ireturn, 1) (List.mem_of_getElem? (i := 33) rfl))
        · have hM := hM.2 c46
          refine lv_iload hx hb (okX11_pass (49, .iload 4, 2) (List.mem_of_getElem? (i := 25) rfl)) (lv_at hl 0 rfl) ?_
          refine lv_aload_n hx hb (okX11_pass (51, .aload_n 0, 1) (List.mem_of_getElem? (i := 26) rfl)) rfl (lv_at hl 1 rfl) ?_
          refine sk_getr (b := 4) S hK hw kdn_0 (kd_in kdn_0) (C := RX11) (T := TX11) (N := 8) rfl hI11 1 ⟨by decide, rfl, by decide, rfl⟩ rfl (k' := 1) rfl rfl (by decide +kernel) hL0 (okX11_pass (52, .getfield 19, 3) (List.mem_of_getElem? (i := 27) rfl)) ?_
          refine lv_iload_n hx hb (okX11_pass (55, .iload_n 2, 1) (List.mem_of_getElem? (i := 28) rfl)) rfl (lv_at hl 3 rfl) ?_
          refine sk_cr (sk_runV (a := 4) (C := RX2) (As := [.int (iI p2)]) (rest := [.int (iI r_39)]) S (c_Gallery_at l G hr_p2 hM) sk_blind gX11_pass_X2_at rfl hdX2_at ⟨⟨rfl, rfl⟩, Nat.le_of_ble_eq_true rfl, Nat.le_of_ble_eq_true rfl⟩ (sk_recv hK hw kdn_4 (kd_in kdn_4) (by decide) rfl) (sk_pre hK hw) rfl hl.1 rfl (Nat.le_of_ble_eq_true rfl) (okX11_pass (56, .invokevirtual 81, 3) (List.mem_of_getElem? (i := 29) rfl)) ⟨Nat.zero_le _, Nat.zero_le _⟩) hw (fun r_56 I_56 H locs hk_r_56 hM hw => ?_)
          refine sk_ci (sk_runV (a := r_56) (C := RX5) (As := []) (rest := [.int (iI r_39)]) S (c_Places_size l G hk_r_56 hM) sk_blind gX11_pass_X5_size rfl hdX5_size ⟨⟨rfl, rfl⟩, Nat.le_of_ble_eq_true rfl, Nat.le_of_ble_eq_true rfl⟩ (sk_recv hK hw hk_r_56 (kd_in hk_r_56) (by decide) rfl) (sk_pre hK hw) rfl hl.1 rfl (Nat.le_of_ble_eq_true rfl) (okX11_pass (59, .invokevirtual 117, 3) (List.mem_of_getElem? (i := 30) rfl)) ⟨Nat.zero_le _, Nat.zero_le _⟩) hw (fun r_59 I_59 H locs hr_r_59 hM hw => ?_)
          refine sk_icmp_eq (tgt := 68) hx hb hr_r_39 hr_r_59 (okX11_pass (62, .if_icmp .eq 6, 3) (List.mem_of_getElem? (i := 31) rfl)) (by decide) (fun c62 => ?_) (fun c62 => ?_)
          · have hM := hM.1 c62
            refine lv_aload_n hx hb (okX11_pass (68, .aload_n 0, 1) (List.mem_of_getElem? (i := 34) rfl)) rfl (lv_at hl 1 rfl) ?_
            refine sk_getr (b := 44) S hK hw kdn_0 (kd_in kdn_0) (C := RX11) (T := TX11) (N := 8) rfl hI11 4 ⟨by decide, rfl, by decide, rfl⟩ rfl (k' := 4) rfl rfl (by decide +kernel) hL1 (okX11_pass (69, .getfield 40, 3) (List.mem_of_getElem? (i := 35) rfl)) ?_
            refine lv_aload_n hx hb (okX11_pass (72, .aload_n 0, 1) (List.mem_of_getElem? (i := 36) rfl)) rfl (lv_at hl 1 rfl) ?_
            refine sk_getr (b := 4) S hK hw kdn_0 (kd_in kdn_0) (C := RX11) (T := TX11) (N := 8) rfl hI11 1 ⟨by decide, rfl, by decide, rfl⟩ rfl (k' := 1) rfl rfl (by decide +kernel) hL0 (okX11_pass (73, .getfield 19, 3) (List.mem_of_getElem? (i := 37) rfl)) ?_
            refine lv_iload_n hx hb (okX11_pass (76, .iload_n 1, 1) (List.mem_of_getElem? (i := 38) rfl)) rfl (lv_at hl 2 rfl) ?_
            refine sk_cr (sk_runV (a := 4) (C := RX2) (As := [.int (iI p1)]) (rest := [.ref (sk_ad G 44)]) S (c_Gallery_at l G hr_p1 hM) sk_blind gX11_pass_X2_at rfl hdX2_at ⟨⟨rfl, rfl⟩, Nat.le_of_ble_eq_true rfl, Nat.le_of_ble_eq_true rfl⟩ (sk_recv hK hw kdn_4 (kd_in kdn_4) (by decide) rfl) (sk_pre hK hw) rfl hl.1 rfl (Nat.le_of_ble_eq_true rfl) (okX11_pass (77, .invokevirtual 81, 3) (List.mem_of_getElem? (i := 39) rfl)) ⟨Nat.zero_le _, Nat.zero_le _⟩) hw (fun r_77 I_77 H locs hk_r_77 hM hw => ?_)
            refine lv_aload_n hx hb (okX11_pass (80, .aload_n 0, 1) (List.mem_of_getElem? (i := 40) rfl)) rfl (lv_at hl 1 rfl) ?_
            refine sk_getr (b := 4) S hK hw kdn_0 (kd_in kdn_0) (C := RX11) (T := TX11) (N := 8) rfl hI11 1 ⟨by decide, rfl, by decide, rfl⟩ rfl (k' := 1) rfl rfl (by decide +kernel) hL0 (okX11_pass (81, .getfield 19, 3) (List.mem_of_getElem? (i := 41) rfl)) ?_
            refine lv_iload_n hx hb (okX11_pass (84, .iload_n 2, 1) (List.mem_of_getElem? (i := 42) rfl)) rfl (lv_at hl 3 rfl) ?_
            refine sk_cr (sk_runV (a := 4) (C := RX2) (As := [.int (iI p2)]) (rest := [.ref (sk_ad G r_77), .ref (sk_ad G 44)]) S (c_Gallery_at l G hr_p2 hM) sk_blind gX11_pass_X2_at rfl hdX2_at ⟨⟨rfl, rfl⟩, Nat.le_of_ble_eq_true rfl, Nat.le_of_ble_eq_true rfl⟩ (sk_recv hK hw kdn_4 (kd_in kdn_4) (by decide) rfl) (sk_pre hK hw) rfl hl.1 rfl (Nat.le_of_ble_eq_true rfl) (okX11_pass (85, .invokevirtual 81, 3) (List.mem_of_getElem? (i := 43) rfl)) ⟨Nat.zero_le _, Nat.zero_le _⟩) hw (fun r_85 I_85 H locs hk_r_85 hM hw => ?_)
            refine lv_iload_n hx hb (okX11_pass (88, .iload_n 3, 1) (List.mem_of_getElem? (i := 44) rfl)) rfl (lv_at hl 4 rfl) ?_
            refine lv_aload_n hx hb (okX11_pass (89, .aload_n 0, 1) (List.mem_of_getElem? (i := 45) rfl)) rfl (lv_at hl 1 rfl) ?_
            refine sk_getr (b := 37) S hK hw kdn_0 (kd_in kdn_0) (C := RX11) (T := TX11) (N := 8) rfl hI11 3 ⟨by decide, rfl, by decide, rfl⟩ rfl (k' := 3) rfl rfl (by decide +kernel) hL2 (okX11_pass (90, .getfield 33, 3) (List.mem_of_getElem? (i := 46) rfl)) ?_
            refine sk_ci (sk_runV (a := 44) (C := RX4) (As := [.ref (sk_ad G r_77), .ref (sk_ad G r_85), .int (iI p3), .ref (sk_ad G 37)]) (rest := []) S (c_Pass_lead l G kdn_44 hk_r_77 hk_r_85 hr_p3 hM) sk_blind gX11_pass_X4_lead rfl hdX4_lead ⟨⟨rfl, rfl⟩, Nat.le_of_ble_eq_true rfl, Nat.le_of_ble_eq_true rfl⟩ (sk_recv hK hw kdn_44 (kd_in kdn_44) (by decide) rfl) (sk_pre hK hw) rfl hl.1 rfl (Nat.le_of_ble_eq_true rfl) (okX11_pass (93, .invokevirtual 150, 3) (List.mem_of_getElem? (i := 47) rfl)) ⟨Nat.zero_le _, Nat.zero_le _⟩) hw (fun r_93 I_93 H locs hr_r_93 hM hw => ?_)
            exact sk_iret hx hb hr0 hlocks hK hw hr_r_93 hM (okX11_pass (96, .ireturn, 1) (List.mem_of_getElem? (i := 48) rfl))
          · have hM := hM.2 c62
            refine lv_bipush (v := iI (-3)) hx hb (okX11_pass (65, .bipush (-3), 2) (List.mem_of_getElem? (i := 32) rfl)) (by decide +kernel) ?_
            exact sk_iret hx hb hr0 hlocks hK hw (by decide) hM (okX11_pass (67, .ireturn, 1) (List.mem_of_getElem? (i := 33) rfl))
      · have hM := hM.2 c25
        refine lv_bipush (v := iI (-2)) hx hb (okX11_pass (28, .bipush (-2), 2) (List.mem_of_getElem? (i := 15) rfl)) (by decide +kernel) ?_
        exact sk_iret hx hb hr0 hlocks hK hw (by decide) hM (okX11_pass (30, .ireturn, 1) (List.mem_of_getElem? (i := 16) rfl))
    · have hM := hM.2 c13
      refine lv_iconst (v := iI (-1)) hx hb (okX11_pass (16, .iconst (-1), 1) (List.mem_of_getElem? (i := 8) rfl)) rfl ?_
      exact sk_iret hx hb hr0 hlocks hK hw (by decide) hM (okX11_pass (17, .ireturn, 1) (List.mem_of_getElem? (i := 9) rfl))
def rmX11_point : Room := { frames := 4, cells := 0, slots := 0, locals := 219 }
set_option maxHeartbeats 4000000 in
set_option maxRecDepth 100000 in
theorem c_Sky_point (l : Launch) (G : sk_G) {p1 p2 p3 : Int} (hr_p1 : rI p1) (hr_p2 : rI p2) (hr_p3 : rI p3) {Q : Int → sk_S → Prop} {I : sk_S} (hM : M_Sky_point p1 p2 p3 Q I) : Met l yX11_point wsX11_point rmX11_point (va_Pc [.ref (sk_ad G 0), .int (iI p1), .int (iI p2), .int (iI p3)] (sk_U G 198 sk_t I)) (sk_Qi G 198 sk_t Q) 0 0 (sk_A G) := by
  refine Met.ofW (cc := cX11_point) (maxL := 5) (ret := (some .int)) (by decide) rfl ?_
  intro p e s m args below meth c s₁ B hml hv
  obtain ⟨rfl, hU, hK⟩ := hv
  have hx := B.exec
  have hb := B.bytes
  have hr0 := B.returns
  have hts := atoms_spec (ws := wsX11_point) B.pre
  have hown : s.vm.findClass RX11 = some m.cls := findClass_of_methodNamed B.named
  have hlocks := B.notSynchronized
  have S : CallFix p m c cX11_point 5 s ([.ref (sk_ad G 0), .int (iI p1), .int (iI p2), .int (iI p3)].toArray) wsX11_point RX11 := ⟨hx, hb, hml, hown, hts⟩
  have hL0 := hts (.fieldLink RX11 19 "SkyLights" "gallery" "LSkyLights$Gallery;") (by decide +kernel)
  have hL1 := hts (.fieldLink RX11 26 "SkyLights" "air" "LSkyLights$Air;") (by decide +kernel)
  have hI11 : ∀ w ∈ u_ws RX11 TX11 8, w ∈ wsX11_point := by decide +kernel
  have hw : sk_W G 198 sk_t I s s.heap [] := ⟨hU, va_S.rf⟩
  have hl := lv_entry ([.ref (sk_ad G 0), .int (iI p1), .int (iI p2), .int (iI p3)]) (n := 5) (Nat.le_of_ble_eq_true rfl)
  rw [lg_entry_eq]
  generalize (lg_sl ([.ref (sk_ad G 0), .int (iI p1), .int (iI p2), .int (iI p3)]) ++ List.replicate (5 - (lg_sl ([.ref (sk_ad G 0), .int (iI p1), .int (iI p2), .int (iI p3)])).length) Slot.unset).toArray = ls at hl ⊢
  have hl : lv_has ls 5 [(0, .ref (sk_ad G 0)), (1, .int (iI p1)), (2, .int (iI p2)), (3, .int (iI p3))] := hl
  suffices hgo : ∀ (H : Heap) (locs : List Loc), sk_W G 198 sk_t I s H locs → W p l e (headSpec wsX11_point rmX11_point).room s m ([.ref (sk_ad G 0), .int (iI p1), .int (iI p2), .int (iI p3)].toArray) below meth c H locs 0 0 (MQ below (sk_Qi G 198 sk_t Q) ([.ref (sk_ad G 0), .int (iI p1), .int (iI p2), .int (iI p3)].toArray) s 0 0 (sk_A G)) (F0 m 0 ls []) from hgo _ _ hw
  have hJ_63 : ∀ (v2 v3 v4 : Int) (I : sk_S), rI v2 → rI v3 → kd v4 = 5 → J_Sky_point_63 v2 v3 v4 Q I → ∀ (H : Heap) (locs : List Loc) (ls : Array Slot), sk_W G 198 sk_t I s H locs → lv_has ls 5 [(2, .int (iI v2)), (3, .int (iI v3)), (4, .ref (sk_ad G v4))] → W p l e (headSpec wsX11_point rmX11_point).room s m ([.ref (sk_ad G 0), .int (iI p1), .int (iI p2), .int (iI p3)].toArray) below meth c H locs 0 0 (MQ below (sk_Qi G 198 sk_t Q) ([.ref (sk_ad G 0), .int (iI p1), .int (iI p2), .int (iI p3)].toArray) s 0 0 (sk_A G)) (F0 m 63 ls []) := by
    intro v2 v3 v4 I hr_v2 hr_v3 hk_v4 hM H locs ls hw hl
    unfold J_Sky_point_63 at hM
    refine lv_aload hx hb (okX11_point (63, .aload 4, 2) (List.mem_of_getElem? (i := 32) rfl)) (lv_at hl 2 rfl) ?_
    refine lv_iload_n hx hb (okX11_point (65, .iload_n 2, 1) (List.mem_of_getElem? (i := 33) rfl)) rfl (lv_at hl 0 rfl) ?_
    refine sk_ci (sk_runV (a := v4) (C := RX5) (As := [.int (iI v2)]) (rest := []) S (c_Places_has l G hk_v4 hr_v2 hM) sk_blind gX11_point_X5_has rfl hdX5_has ⟨⟨rfl, rfl⟩, Nat.le_of_ble_eq_true rfl, Nat.le_of_ble_eq_true rfl⟩ (sk_recv hK hw hk_v4 (kd_in hk_v4) (by decide) rfl) (sk_pre hK hw) rfl hl.1 rfl (Nat.le_of_ble_eq_true rfl) (okX11_point (66, .invokevirtual 126, 3) (List.mem_of_getElem? (i := 34) rfl)) ⟨Nat.zero_le _, Nat.zero_le _⟩) hw (fun r_66 I_66 H locs hr_r_66 hM hw => ?_)
    obtain ⟨hb_r_66, hM⟩ := hM
    refine sk_if_eq (tgt := 91) hx hb hr_r_66 (okX11_point (69, .ifCond .eq 22, 3) (List.mem_of_getElem? (i := 35) rfl)) (by decide) (fun c69 => ?_) (fun c69 => ?_)
    · have hM := hM.1 c69
      refine lv_sipush (v := iI (-1000)) hx hb (okX11_point (91, .sipush (-1000), 3) (List.mem_of_getElem? (i := 46) rfl)) (by decide +kernel) ?_
      exact sk_iret hx hb hr0 hlocks hK hw (by decide) hM (okX11_point (94, .ireturn, 1) (List.mem_of_getElem? (i := 47) rfl))
    · have hM := hM.2 c69
      refine lv_iload_n hx hb (okX11_point (72, .iload_n 3, 1) (List.mem_of_getElem? (i := 36) rfl)) rfl (lv_at hl 1 rfl) ?_
      refine lv_iconst (v := iI 0) hx hb (okX11_point (73, .iconst 0, 1) (List.mem_of_getElem? (i := 37) rfl)) rfl ?_
      refine lv_iconst (v := iI 3) hx hb (okX11_point (74, .iconst 3, 1) (List.mem_of_getElem? (i := 38) rfl)) rfl ?_
      refine sk_ci (sk_runS (As := [.int (iI v3), .int (iI 0), .int (iI 3)]) (rest := []) S (c_Sky_isWithin l G hr_v3 (by decide) (by decide) hM) sk_blind gX11_point_X11_isWithin rfl hdX11_isWithin ⟨⟨rfl, rfl⟩, Nat.le_of_ble_eq_true rfl, Nat.le_of_ble_eq_true rfl⟩ (sk_pre hK hw) rfl hl.1 rfl (Nat.le_of_ble_eq_true rfl) (okX11_point (75, .invokestatic 70, 3) (List.mem_of_getElem? (i := 39) rfl)) ⟨Nat.zero_le _, Nat.zero_le _⟩) hw (fun r_75 I_75 H locs hr_r_75 hM hw => ?_)
      obtain ⟨hb_r_75, hM⟩ := hM
      refine sk_if_eq (tgt := 91) hx hb hr_r_75 (okX11_point (78, .ifCond .eq 13, 3) (List.mem_of_getElem? (i := 40) rfl)) (by decide) (fun c78 => ?_) (fun c78 => ?_)
      · have hM := hM.1 c78
        refine lv_sipush (v := iI (-1000)) hx hb (okX11_point (91, .sipush (-1000), 3) (List.mem_of_getElem? (i := 46) rfl)) (by decide +kernel) ?_
        exact sk_iret hx hb hr0 hlocks hK hw (by decide) hM (okX11_point (94, .ireturn, 1) (List.mem_of_getElem? (i := 47) rfl))
      · have hM := hM.2 c78
        refine lv_aload hx hb (okX11_point (81, .aload 4, 2) (List.mem_of_getElem? (i := 41) rfl)) (lv_at hl 2 rfl) ?_
        refine lv_iload_n hx hb (okX11_point (83, .iload_n 2, 1) (List.mem_of_getElem? (i := 42) rfl)) rfl (lv_at hl 0 rfl) ?_
        refine lv_iload_n hx hb (okX11_point (84, .iload_n 3, 1) (List.mem_of_getElem? (i := 43) rfl)) rfl (lv_at hl 1 rfl) ?_
        refine sk_ci (sk_runV (a := v4) (C := RX5) (As := [.int (iI v2), .int (iI v3)]) (rest := []) S (c_Places_told l G hk_v4 hr_v2 hr_v3 hM) sk_blind gX11_point_X5_told rfl hdX5_told ⟨⟨rfl, rfl⟩, Nat.le_of_ble_eq_true rfl, Nat.le_of_ble_eq_true rfl⟩ (sk_recv hK hw hk_v4 (kd_in hk_v4) (by decide) rfl) (sk_pre hK hw) rfl hl.1 rfl (Nat.le_of_ble_eq_true rfl) (okX11_point (85, .invokevirtual 127, 3) (List.mem_of_getElem? (i := 44) rfl)) ⟨Nat.zero_le _, Nat.zero_le _⟩) hw (fun r_85 I_85 H locs hr_r_85 hM hw => ?_)
        refine lv_goto (tgt := 94) hx hb (okX11_point (88, .goto 6, 3) (List.mem_of_getElem? (i := 45) rfl)) (by decide) ?_
        exact sk_iret hx hb hr0 hlocks hK hw hr_r_85 hM (okX11_point (94, .ireturn, 1) (List.mem_of_getElem? (i := 47) rfl))
  have hJ_40 : ∀ (v2 v3 v4 : Int) (I : sk_S), rI v2 → rI v3 → kd v4 = 5 → J_Sky_point_40 v2 v3 v4 Q I → ∀ (H : Heap) (locs : List Loc) (ls : Array Slot), sk_W G 198 sk_t I s H locs → lv_has ls 5 [(0, .ref (sk_ad G 0)), (2, .int (iI v2)), (3, .int (iI v3)), (4, .ref (sk_ad G v4))] → W p l e (headSpec wsX11_point rmX11_point).room s m ([.ref (sk_ad G 0), .int (iI p1), .int (iI p2), .int (iI p3)].toArray) below meth c H locs 0 0 (MQ below (sk_Qi G 198 sk_t Q) ([.ref (sk_ad G 0), .int (iI p1), .int (iI p2), .int (iI p3)].toArray) s 0 0 (sk_A G)) (F0 m 40 ls []) := by
    intro v2 v3 v4 I hr_v2 hr_v3 hk_v4 hM H locs ls hw hl
    unfold J_Sky_point_40 at hM
    refine lv_iload_n hx hb (okX11_point (40, .iload_n 2, 1) (List.mem_of_getElem? (i := 20) rfl)) rfl (lv_at hl 1 rfl) ?_
    refine lv_iconst (v := iI (-1)) hx hb (okX11_point (41, .iconst (-1), 1) (List.mem_of_getElem? (i := 21) rfl)) rfl ?_
    refine sk_icmp_ne (tgt := 63) hx hb hr_v2 (by decide) (okX11_point (42, .if_icmp .ne 21, 3) (List.mem_of_getElem? (i := 22) rfl)) (by decide) (fun c42 => ?_) (fun c42 => ?_)
    · have hM := hM.1 c42
      exact hJ_63 v2 v3 v4 I hr_v2 hr_v3 hk_v4 hM H locs ls hw (lv_sub hl [1, 2, 3] rfl)
    · have hM := hM.2 c42
      refine lv_iload_n hx hb (okX11_point (45, .iload_n 3, 1) (List.mem_of_getElem? (i := 23) rfl)) rfl (lv_at hl 2 rfl) ?_
      refine lv_iconst (v := iI 1) hx hb (okX11_point (46, .iconst 1, 1) (List.mem_of_getElem? (i := 24) rfl)) rfl ?_
      refine sk_icmp_ne (tgt := 63) hx hb hr_v3 (by decide) (okX11_point (47, .if_icmp .ne 16, 3) (List.mem_of_getElem? (i := 25) rfl)) (by decide) (fun c47 => ?_) (fun c47 => ?_)
      · have hM := hM.1 c47
        exact hJ_63 v2 v3 v4 I hr_v2 hr_v3 hk_v4 hM H locs ls hw (lv_sub hl [1, 2, 3] rfl)
      · have hM := hM.2 c47
        refine lv_aload_n hx hb (okX11_point (50, .aload_n 0, 1) (List.mem_of_getElem? (i := 26) rfl)) rfl (lv_at hl 0 rfl) ?_
        refine sk_getr (b := 36) S hK hw kdn_0 (kd_in kdn_0) (C := RX11) (T := TX11) (N := 8) rfl hI11 2 ⟨by decide, rfl, by decide, rfl⟩ rfl (k' := 2) rfl rfl (by decide +kernel) hL1 (okX11_point (51, .getfield 26, 3) (List.mem_of_getElem? (i := 27) rfl)) ?_
        refine lv_aload hx hb (okX11_point (54, .aload 4, 2) (List.mem_of_getElem? (i := 28) rfl)) (lv_at hl 3 rfl) ?_
        refine sk_ci (sk_runV (a := 36) (C := RX0) (As := [.ref (sk_ad G v4)]) (rest := []) S (c_Air_isLoose l G hk_v4 hM) sk_blind gX11_point_X0_isLoose rfl hdX0_isLoose ⟨⟨rfl, rfl⟩, Nat.le_of_ble_eq_true rfl, Nat.le_of_ble_eq_true rfl⟩ (sk_recv hK hw kdn_36 (kd_in kdn_36) (by decide) rfl) (sk_pre hK hw) rfl hl.1 rfl (Nat.le_of_ble_eq_true rfl) (okX11_point (56, .invokevirtual 118, 3) (List.mem_of_getElem? (i := 29) rfl)) ⟨Nat.zero_le _, Nat.zero_le _⟩) hw (fun r_56 I_56 H locs hr_r_56 hM hw => ?_)
        obtain ⟨hb_r_56, hM⟩ := hM
        refine sk_ci (sk_runS (As := [.int (iI r_56)]) (rest := []) S (c_Sky_bit l G hr_r_56 hM) sk_blind gX11_point_X11_bit rfl hdX11_bit ⟨⟨rfl, rfl⟩, Nat.le_of_ble_eq_true rfl, Nat.le_of_ble_eq_true rfl⟩ (sk_pre hK hw) rfl hl.1 rfl (Nat.le_of_ble_eq_true rfl) (okX11_point (59, .invokestatic 122, 3) (List.mem_of_getElem? (i := 30) rfl)) ⟨Nat.zero_le _, Nat.zero_le _⟩) hw (fun r_59 I_59 H locs hr_r_59 hM hw => ?_)
        exact sk_iret hx hb hr0 hlocks hK hw hr_r_59 hM (okX11_point (62, .ireturn, 1) (List.mem_of_getElem? (i := 31) rfl))
  unfold M_Sky_point at hM
  intro H locs hw
  refine lv_aload_n hx hb (okX11_point (0, .aload_n 0, 1) (List.mem_of_getElem? (i := 0) rfl)) rfl (lv_at hl 0 rfl) ?_
  refine sk_getr (b := 4) S hK hw kdn_0 (kd_in kdn_0) (C := RX11) (T := TX11) (N := 8) rfl hI11 1 ⟨by decide, rfl, by decide, rfl⟩ rfl (k' := 1) rfl rfl (by decide +kernel) hL0 (okX11_point (1, .getfield 19, 3) (List.mem_of_getElem? (i := 1) rfl)) ?_
  refine lv_iload_n hx hb (okX11_point (4, .iload_n 1, 1) (List.mem_of_getElem? (i := 2) rfl)) rfl (lv_at hl 1 rfl) ?_
  refine sk_ci (sk_runV (a := 4) (C := RX2) (As := [.int (iI p1)]) (rest := []) S (c_Gallery_has l G hr_p1 hM) sk_blind gX11_point_X2_has rfl hdX2_has ⟨⟨rfl, rfl⟩, Nat.le_of_ble_eq_true rfl, Nat.le_of_ble_eq_true rfl⟩ (sk_recv hK hw kdn_4 (kd_in kdn_4) (by decide) rfl) (sk_pre hK hw) rfl hl.1 rfl (Nat.le_of_ble_eq_true rfl) (okX11_point (5, .invokevirtual 114, 3) (List.mem_of_getElem? (i := 3) rfl)) ⟨Nat.zero_le _, Nat.zero_le _⟩) hw (fun r_5 I_5 H locs hr_r_5 hM hw => ?_)
  obtain ⟨hb_r_5, hM⟩ := hM
  refine sk_if_ne (tgt := 15) hx hb hr_r_5 (okX11_point (8, .ifCond .ne 7, 3) (List.mem_of_getElem? (i := 4) rfl)) (by decide) (fun c8 => ?_) (fun c8 => ?_)
  · have hM := hM.1 c8
    refine lv_aload_n hx hb (okX11_point (15, .aload_n 0, 1) (List.mem_of_getElem? (i := 7) rfl)) rfl (lv_at hl 0 rfl) ?_
    refine sk_getr (b := 4) S hK hw kdn_0 (kd_in kdn_0) (C := RX11) (T := TX11) (N := 8) rfl hI11 1 ⟨by decide, rfl, by decide, rfl⟩ rfl (k' := 1) rfl rfl (by decide +kernel) hL0 (okX11_point (16, .getfield 19, 3) (List.mem_of_getElem? (i := 8) rfl)) ?_
    refine lv_iload_n hx hb (okX11_point (19, .iload_n 1, 1) (List.mem_of_getElem? (i := 9) rfl)) rfl (lv_at hl 1 rfl) ?_
    refine sk_cr (sk_runV (a := 4) (C := RX2) (As := [.int (iI p1)]) (rest := []) S (c_Gallery_at l G hr_p1 hM) sk_blind gX11_point_X2_at rfl hdX2_at ⟨⟨rfl, rfl⟩, Nat.le_of_ble_eq_true rfl, Nat.le_of_ble_eq_true rfl⟩ (sk_recv hK hw kdn_4 (kd_in kdn_4) (by decide) rfl) (sk_pre hK hw) rfl hl.1 rfl (Nat.le_of_ble_eq_true rfl) (okX11_point (20, .invokevirtual 81, 3) (List.mem_of_getElem? (i := 10) rfl)) ⟨Nat.zero_le _, Nat.zero_le _⟩) hw (fun r_20 I_20 H locs hk_r_20 hM hw => ?_)
    refine lv_astore (lv' := [(4, .ref (sk_ad G r_20)), (0, .ref (sk_ad G 0)), (1, .int (iI p1)), (2, .int (iI p2)), (3, .int (iI p3))]) hx hb (okX11_point (23, .astore 4, 2) (List.mem_of_getElem? (i := 11) rfl)) hl (by decide) rfl (fun ls hl => ?_)
    refine lv_iload_n hx hb (okX11_point (25, .iload_n 2, 1) (List.mem_of_getElem? (i := 12) rfl)) rfl (lv_at hl 3 rfl) ?_
    refine lv_iconst (v := iI (-1)) hx hb (okX11_point (26, .iconst (-1), 1) (List.mem_of_getElem? (i := 13) rfl)) rfl ?_
    refine sk_icmp_ne (tgt := 40) hx hb hr_p2 (by decide) (okX11_point (27, .if_icmp .ne 13, 3) (List.mem_of_getElem? (i := 14) rfl)) (by decide) (fun c27 => ?_) (fun c27 => ?_)
    · have hM := hM.1 c27
      exact hJ_40 p2 p3 r_20 I_20 hr_p2 hr_p3 hk_r_20 hM H locs ls hw (lv_sub hl [1, 3, 4, 0] rfl)
    · have hM := hM.2 c27
      refine lv_iload_n hx hb (okX11_point (30, .iload_n 3, 1) (List.mem_of_getElem? (i := 15) rfl)) rfl (lv_at hl 4 rfl) ?_
      refine sk_if_ne (tgt := 40) hx hb hr_p3 (okX11_point (31, .ifCond .ne 9, 3) (List.mem_of_getElem? (i := 16) rfl)) (by decide) (fun c31 => ?_) (fun c31 => ?_)
      · have hM := hM.1 c31
        exact hJ_40 p2 p3 r_20 I_20 hr_p2 hr_p3 hk_r_20 hM H locs ls hw (lv_sub hl [1, 3, 4, 0] rfl)
      · have hM := hM.2 c31
        refine lv_aload hx hb (okX11_point (34, .aload 4, 2) (List.mem_of_getElem? (i := 17) rfl)) (lv_at hl 0 rfl) ?_
        refine sk_ci (sk_runV (a := r_20) (C := RX5) (As := []) (rest := []) S (c_Places_size l G hk_r_20 hM) sk_blind gX11_point_X5_size rfl hdX5_size ⟨⟨rfl, rfl⟩, Nat.le_of_ble_eq_true rfl, Nat.le_of_ble_eq_true rfl⟩ (sk_recv hK hw hk_r_20 (kd_in hk_r_20) (by decide) rfl) (sk_pre hK hw) rfl hl.1 rfl (Nat.le_of_ble_eq_true rfl) (okX11_point (36, .invokevirtual 117, 3) (List.mem_of_getElem? (i := 18) rfl)) ⟨Nat.zero_le _, Nat.zero_le _⟩) hw (fun r_36 I_36 H locs hr_r_36 hM hw => ?_)
        exact sk_iret hx hb hr0 hlocks hK hw hr_r_36 hM (okX11_point (39, .ireturn, 1) (List.mem_of_getElem? (i := 19) rfl))
  · have hM := hM.2 c8
    refine lv_sipush (v := iI (-1000)) hx hb (okX11_point (11, .sipush (-1000), 3) (List.mem_of_getElem? (i := 5) rfl)) (by decide +kernel) ?_
    exact sk_iret hx hb hr0 hlocks hK hw (by decide) hM (okX11_point (14, .ireturn, 1) (List.mem_of_getElem? (i := 6) rfl))
def rmX11_scene : Room := { frames := 6, cells := 0, slots := 0, locals := 337 }
set_option maxHeartbeats 4000000 in
set_option maxRecDepth 100000 in
theorem c_Sky_scene (l : Launch) (G : sk_G) {p1 p2 p3 p4 : Int} (hr_p1 : rI p1) (hr_p2 : rI p2) (hr_p3 : rI p3) (hr_p4 : rI p4) {Q : Int → sk_S → Prop} {I : sk_S} (hM : M_Sky_scene p1 p2 p3 p4 Q I) : Met l yX11_scene wsX11_scene rmX11_scene (va_Pc [.ref (sk_ad G 0), .int (iI p1), .int (iI p2), .int (iI p3), .int (iI p4)] (sk_U G 198 sk_t I)) (sk_Qi G 198 sk_t Q) 0 0 (sk_A G) := by
  refine Met.ofW (cc := cX11_scene) (maxL := 7) (ret := (some .int)) (by decide) rfl ?_
  intro p e s m args below meth c s₁ B hml hv
  obtain ⟨rfl, hU, hK⟩ := hv
  have hx := B.exec
  have hb := B.bytes
  have hr0 := B.returns
  have hts := atoms_spec (ws := wsX11_scene) B.pre
  have hown : s.vm.findClass RX11 = some m.cls := findClass_of_methodNamed B.named
  have hlocks := B.notSynchronized
  have S : CallFix p m c cX11_scene 7 s ([.ref (sk_ad G 0), .int (iI p1), .int (iI p2), .int (iI p3), .int (iI p4)].toArray) wsX11_scene RX11 := ⟨hx, hb, hml, hown, hts⟩
  have hL0 := hts (.fieldLink RX11 19 "SkyLights" "gallery" "LSkyLights$Gallery;") (by decide +kernel)
  have hL1 := hts (.fieldLink RX11 54 "SkyLights" "show" "LSkyLights$Show;") (by decide +kernel)
  have hL2 := hts (.fieldLink RX11 33 "SkyLights" "planner" "LSkyLights$Planner;") (by decide +kernel)
  have hI8 : ∀ w ∈ u_ws RX8 TX8 5, w ∈ wsX11_scene := by decide +kernel
  have hI11 : ∀ w ∈ u_ws RX11 TX11 8, w ∈ wsX11_scene := by decide +kernel
  have hw : sk_W G 198 sk_t I s s.heap [] := ⟨hU, va_S.rf⟩
  have hl := lv_entry ([.ref (sk_ad G 0), .int (iI p1), .int (iI p2), .int (iI p3), .int (iI p4)]) (n := 7) (Nat.le_of_ble_eq_true rfl)
  rw [lg_entry_eq]
  generalize (lg_sl ([.ref (sk_ad G 0), .int (iI p1), .int (iI p2), .int (iI p3), .int (iI p4)]) ++ List.replicate (7 - (lg_sl ([.ref (sk_ad G 0), .int (iI p1), .int (iI p2), .int (iI p3), .int (iI p4)])).length) Slot.unset).toArray = ls at hl ⊢
  have hl : lv_has ls 7 [(0, .ref (sk_ad G 0)), (1, .int (iI p1)), (2, .int (iI p2)), (3, .int (iI p3)), (4, .int (iI p4))] := hl
  suffices hgo : ∀ (H : Heap) (locs : List Loc), sk_W G 198 sk_t I s H locs → W p l e (headSpec wsX11_scene rmX11_scene).room s m ([.ref (sk_ad G 0), .int (iI p1), .int (iI p2), .int (iI p3), .int (iI p4)].toArray) below meth c H locs 0 0 (MQ below (sk_Qi G 198 sk_t Q) ([.ref (sk_ad G 0), .int (iI p1), .int (iI p2), .int (iI p3), .int (iI p4)].toArray) s 0 0 (sk_A G)) (F0 m 0 ls []) from hgo _ _ hw
  have hJ_38 : ∀ (v1 v2 v3 v4 s0 : Int) (I : sk_S), rI v1 → rI v2 → rI v3 → rI v4 → rI s0 → J_Sky_scene_38 v1 v2 v3 v4 s0 Q I → ∀ (H : Heap) (locs : List Loc) (ls : Array Slot), sk_W G 198 sk_t I s H locs → lv_has ls 7 [(0, .ref (sk_ad G 0)), (1, .int (iI v1)), (2, .int (iI v2)), (3, .int (iI v3)), (4, .int (iI v4))] → W p l e (headSpec wsX11_scene rmX11_scene).room s m ([.ref (sk_ad G 0), .int (iI p1), .int (iI p2), .int (iI p3), .int (iI p4)].toArray) below meth c H locs 0 0 (MQ below (sk_Qi G 198 sk_t Q) ([.ref (sk_ad G 0), .int (iI p1), .int (iI p2), .int (iI p3), .int (iI p4)].toArray) s 0 0 (sk_A G)) (F0 m 38 ls [.int (iI s0)]) := by
    intro v1 v2 v3 v4 s0 I hr_v1 hr_v2 hr_v3 hr_v4 hr_s0 hM H locs ls hw hl
    unfold J_Sky_scene_38 at hM
    refine lv_istore (lv' := [(5, .int (iI s0)), (0, .ref (sk_ad G 0)), (1, .int (iI v1)), (2, .int (iI v2)), (3, .int (iI v3)), (4, .int (iI v4))]) hx hb (okX11_scene (38, .istore 5, 2) (List.mem_of_getElem? (i := 20) rfl)) hl (by decide) rfl (fun ls hl => ?_)
    refine lv_iload hx hb (okX11_scene (40, .iload 5, 2) (List.mem_of_getElem? (i := 21) rfl)) (lv_at hl 0 rfl) ?_
    refine sk_if_eq (tgt := 57) hx hb hr_s0 (okX11_scene (42, .ifCond .eq 15, 3) (List.mem_of_getElem? (i := 22) rfl)) (by decide) (fun c42 => ?_) (fun c42 => ?_)
    · have hM := hM.1 c42
      refine lv_bipush (v := iI (-2)) hx hb (okX11_scene (57, .bipush (-2), 2) (List.mem_of_getElem? (i := 28) rfl)) (by decide +kernel) ?_
      exact sk_iret hx hb hr0 hlocks hK hw (by decide) hM (okX11_scene (59, .ireturn, 1) (List.mem_of_getElem? (i := 29) rfl))
    · have hM := hM.2 c42
      refine lv_iload hx hb (okX11_scene (45, .iload 4, 2) (List.mem_of_getElem? (i := 23) rfl)) (lv_at hl 5 rfl) ?_
      refine lv_iconst (v := iI 0) hx hb (okX11_scene (47, .iconst 0, 1) (List.mem_of_getElem? (i := 24) rfl)) rfl ?_
      refine lv_sipush (v := iI 255) hx hb (okX11_scene (48, .sipush 255, 3) (List.mem_of_getElem? (i := 25) rfl)) (by decide +kernel) ?_
      refine sk_ci (sk_runS (As := [.int (iI v4), .int (iI 0), .int (iI 255)]) (rest := []) S (c_Sky_isWithin l G hr_v4 (by decide) (by decide) hM) sk_blind gX11_scene_X11_isWithin rfl hdX11_isWithin ⟨⟨rfl, rfl⟩, Nat.le_of_ble_eq_true rfl, Nat.le_of_ble_eq_true rfl⟩ (sk_pre hK hw) rfl hl.1 rfl (Nat.le_of_ble_eq_true rfl) (okX11_scene (51, .invokestatic 70, 3) (List.mem_of_getElem? (i := 26) rfl)) ⟨Nat.zero_le _, Nat.zero_le _⟩) hw (fun r_51 I_51 H locs hr_r_51 hM hw => ?_)
      obtain ⟨hb_r_51, hM⟩ := hM
      refine sk_if_ne (tgt := 60) hx hb hr_r_51 (okX11_scene (54, .ifCond .ne 6, 3) (List.mem_of_getElem? (i := 27) rfl)) (by decide) (fun c54 => ?_) (fun c54 => ?_)
      · have hM := hM.1 c54
        refine lv_aload_n hx hb (okX11_scene (60, .aload_n 0, 1) (List.mem_of_getElem? (i := 30) rfl)) rfl (lv_at hl 1 rfl) ?_
        refine sk_getr (b := 4) S hK hw kdn_0 (kd_in kdn_0) (C := RX11) (T := TX11) (N := 8) rfl hI11 1 ⟨by decide, rfl, by decide, rfl⟩ rfl (k' := 1) rfl rfl (by decide +kernel) hL0 (okX11_scene (61, .getfield 19, 3) (List.mem_of_getElem? (i := 31) rfl)) ?_
        refine lv_iload_n hx hb (okX11_scene (64, .iload_n 1, 1) (List.mem_of_getElem? (i := 32) rfl)) rfl (lv_at hl 2 rfl) ?_
        refine sk_cr (sk_runV (a := 4) (C := RX2) (As := [.int (iI v1)]) (rest := []) S (c_Gallery_at l G hr_v1 hM) sk_blind gX11_scene_X2_at rfl hdX2_at ⟨⟨rfl, rfl⟩, Nat.le_of_ble_eq_true rfl, Nat.le_of_ble_eq_true rfl⟩ (sk_recv hK hw kdn_4 (kd_in kdn_4) (by decide) rfl) (sk_pre hK hw) rfl hl.1 rfl (Nat.le_of_ble_eq_true rfl) (okX11_scene (65, .invokevirtual 81, 3) (List.mem_of_getElem? (i := 33) rfl)) ⟨Nat.zero_le _, Nat.zero_le _⟩) hw (fun r_65 I_65 H locs hk_r_65 hM hw => ?_)
        refine sk_ci (sk_runV (a := r_65) (C := RX5) (As := []) (rest := []) S (c_Places_size l G hk_r_65 hM) sk_blind gX11_scene_X5_size rfl hdX5_size ⟨⟨rfl, rfl⟩, Nat.le_of_ble_eq_true rfl, Nat.le_of_ble_eq_true rfl⟩ (sk_recv hK hw hk_r_65 (kd_in hk_r_65) (by decide) rfl) (sk_pre hK hw) rfl hl.1 rfl (Nat.le_of_ble_eq_true rfl) (okX11_scene (68, .invokevirtual 117, 3) (List.mem_of_getElem? (i := 34) rfl)) ⟨Nat.zero_le _, Nat.zero_le _⟩) hw (fun r_68 I_68 H locs hr_r_68 hM hw => ?_)
        refine lv_aload_n hx hb (okX11_scene (71, .aload_n 0, 1) (List.mem_of_getElem? (i := 35) rfl)) rfl (lv_at hl 1 rfl) ?_
        refine sk_ci (sk_runV (a := 0) (C := RX11) (As := []) (rest := [.int (iI r_68)]) S (c_Sky_flyers l G hM) sk_blind gX11_scene_X11_flyers rfl hdX11_flyers ⟨⟨rfl, rfl⟩, Nat.le_of_ble_eq_true rfl, Nat.le_of_ble_eq_true rfl⟩ (sk_recv hK hw kdn_0 (kd_in kdn_0) (by decide) rfl) (sk_pre hK hw) rfl hl.1 rfl (Nat.le_of_ble_eq_true rfl) (okX11_scene (72, .invokevirtual 78, 3) (List.mem_of_getElem? (i := 36) rfl)) ⟨Nat.zero_le _, Nat.zero_le _⟩) hw (fun r_72 I_72 H locs hr_r_72 hM hw => ?_)
        refine sk_icmp_eq (tgt := 81) hx hb hr_r_68 hr_r_72 (okX11_scene (75, .if_icmp .eq 6, 3) (List.mem_of_getElem? (i := 37) rfl)) (by decide) (fun c75 => ?_) (fun c75 => ?_)
        · have hM := hM.1 c75
          refine lv_aload_n hx hb (okX11_scene (81, .aload_n 0, 1) (List.mem_of_getElem? (i := 40) rfl)) rfl (lv_at hl 1 rfl) ?_
          refine sk_getr (b := 54) S hK hw kdn_0 (kd_in kdn_0) (C := RX11) (T := TX11) (N := 8) rfl hI11 6 ⟨by decide, rfl, by decide, rfl⟩ rfl (k' := 6) rfl rfl (by decide +kernel) hL1 (okX11_scene (82, .getfield 54, 3) (List.mem_of_getElem? (i := 41) rfl)) ?_
          refine sk_ci (sk_runV (a := 54) (C := RX9) (As := []) (rest := []) S (c_Show_size l G hM) sk_blind gX11_scene_X9_size rfl hdX9_size ⟨⟨rfl, rfl⟩, Nat.le_of_ble_eq_true rfl, Nat.le_of_ble_eq_true rfl⟩ (sk_recv hK hw kdn_54 (kd_in kdn_54) (by decide) rfl) (sk_pre hK hw) rfl hl.1 rfl (Nat.le_of_ble_eq_true rfl) (okX11_scene (85, .invokevirtual 74, 3) (List.mem_of_getElem? (i := 42) rfl)) ⟨Nat.zero_le _, Nat.zero_le _⟩) hw (fun r_85 I_85 H locs hr_r_85 hM hw => ?_)
          refine lv_bipush (v := iI 12) hx hb (okX11_scene (88, .bipush 12, 2) (List.mem_of_getElem? (i := 43) rfl)) (by decide +kernel) ?_
          refine sk_icmp_lt (tgt := 96) hx hb hr_r_85 (by decide) (okX11_scene (90, .if_icmp .lt 6, 3) (List.mem_of_getElem? (i := 44) rfl)) (by decide) (fun c90 => ?_) (fun c90 => ?_)
          · have hM := hM.1 c90
            refine lv_aload_n hx hb (okX11_scene (96, .aload_n 0, 1) (List.mem_of_getElem? (i := 47) rfl)) rfl (lv_at hl 1 rfl) ?_
            refine sk_getr (b := 54) S hK hw kdn_0 (kd_in kdn_0) (C := RX11) (T := TX11) (N := 8) rfl hI11 6 ⟨by decide, rfl, by decide, rfl⟩ rfl (k' := 6) rfl rfl (by decide +kernel) hL1 (okX11_scene (97, .getfield 54, 3) (List.mem_of_getElem? (i := 48) rfl)) ?_
            refine sk_cr (sk_runV (a := 54) (C := RX9) (As := []) (rest := []) S (c_Show_spare l G hM) sk_blind gX11_scene_X9_spare rfl hdX9_spare ⟨⟨rfl, rfl⟩, Nat.le_of_ble_eq_true rfl, Nat.le_of_ble_eq_true rfl⟩ (sk_recv hK hw kdn_54 (kd_in kdn_54) (by decide) rfl) (sk_pre hK hw) rfl hl.1 rfl (Nat.le_of_ble_eq_true rfl) (okX11_scene (100, .invokevirtual 185, 3) (List.mem_of_getElem? (i := 49) rfl)) ⟨Nat.zero_le _, Nat.zero_le _⟩) hw (fun r_100 I_100 H locs hk_r_100 hM hw => ?_)
            refine lv_astore (lv' := [(6, .ref (sk_ad G r_100)), (5, .int (iI s0)), (0, .ref (sk_ad G 0)), (1, .int (iI v1)), (2, .int (iI v2)), (3, .int (iI v3)), (4, .int (iI v4))]) hx hb (okX11_scene (103, .astore 6, 2) (List.mem_of_getElem? (i := 50) rfl)) hl (by decide) rfl (fun ls hl => ?_)
            refine lv_aload hx hb (okX11_scene (105, .aload 6, 2) (List.mem_of_getElem? (i := 51) rfl)) (lv_at hl 0 rfl) ?_
            refine lv_iload_n hx hb (okX11_scene (107, .iload_n 3, 1) (List.mem_of_getElem? (i := 52) rfl)) rfl (lv_at hl 5 rfl) ?_
            refine sk_putN S hK hw hk_r_100 (kd_in hk_r_100) (C := RX8) (T := TX8) (N := 5) rfl hI8 tyX8 tyX8_ok nmX8 3 ⟨by decide, rfl, by decide, rfl⟩ rfl rfl (k' := 3) rfl hr_v3 ⟨rfl, rfl⟩ (va_Nw.use rfl (hK.2.1 ("SkyLights", 188, "SkyLights$Scene", "hold", "I") (by decide +kernel))) (okX11_scene (108, .putfield 188, 3) (List.mem_of_getElem? (i := 53) rfl)) (fun H locs hw => ?_)
            refine lv_aload hx hb (okX11_scene (111, .aload 6, 2) (List.mem_of_getElem? (i := 54) rfl)) (lv_at hl 0 rfl) ?_
            refine lv_iload hx hb (okX11_scene (113, .iload 4, 2) (List.mem_of_getElem? (i := 55) rfl)) (lv_at hl 6 rfl) ?_
            refine sk_putN S hK hw hk_r_100 (kd_in hk_r_100) (C := RX8) (T := TX8) (N := 5) rfl hI8 tyX8 tyX8_ok nmX8 4 ⟨by decide, rfl, by decide, rfl⟩ rfl rfl (k' := 4) rfl hr_v4 ⟨rfl, rfl⟩ (va_Nw.use rfl (hK.2.1 ("SkyLights", 193, "SkyLights$Scene", "cue", "I") (by decide +kernel))) (okX11_scene (115, .putfield 193, 3) (List.mem_of_getElem? (i := 56) rfl)) (fun H locs hw => ?_)
            refine lv_aload hx hb (okX11_scene (118, .aload 6, 2) (List.mem_of_getElem? (i := 57) rfl)) (lv_at hl 0 rfl) ?_
            refine lv_iload_n hx hb (okX11_scene (120, .iload_n 1, 1) (List.mem_of_getElem? (i := 58) rfl)) rfl (lv_at hl 3 rfl) ?_
            refine sk_putN S hK hw hk_r_100 (kd_in hk_r_100) (C := RX8) (T := TX8) (N := 5) rfl hI8 tyX8 tyX8_ok nmX8 2 ⟨by decide, rfl, by decide, rfl⟩ rfl rfl (k' := 2) rfl hr_v1 ⟨rfl, rfl⟩ (va_Nw.use rfl (hK.2.1 ("SkyLights", 196, "SkyLights$Scene", "figure", "I") (by decide +kernel))) (okX11_scene (121, .putfield 196, 3) (List.mem_of_getElem? (i := 59) rfl)) (fun H locs hw => ?_)
            refine lv_aload hx hb (okX11_scene (124, .aload 6, 2) (List.mem_of_getElem? (i := 60) rfl)) (lv_at hl 0 rfl) ?_
            refine sk_getrN (b := (r_100 + 1)) S hK hw hk_r_100 (kd_in hk_r_100) (C := RX8) (T := TX8) (N := 5) rfl hI8 0 ⟨by decide, rfl, by decide, rfl⟩ rfl (k' := 0) rfl rfl (rf80 hk_r_100) (va_Nw.use rfl (hK.2.1 ("SkyLights", 199, "SkyLights$Scene", "way", "LSkyLights$Pass;") (by decide +kernel))) (okX11_scene (126, .getfield 199, 3) (List.mem_of_getElem? (i := 61) rfl)) ?_
            refine lv_aload_n hx hb (okX11_scene (129, .aload_n 0, 1) (List.mem_of_getElem? (i := 62) rfl)) rfl (lv_at hl 2 rfl) ?_
            refine sk_getr (b := 4) S hK hw kdn_0 (kd_in kdn_0) (C := RX11) (T := TX11) (N := 8) rfl hI11 1 ⟨by decide, rfl, by decide, rfl⟩ rfl (k' := 1) rfl rfl (by decide +kernel) hL0 (okX11_scene (130, .getfield 19, 3) (List.mem_of_getElem? (i := 63) rfl)) ?_
            refine lv_aload_n hx hb (okX11_scene (133, .aload_n 0, 1) (List.mem_of_getElem? (i := 64) rfl)) rfl (lv_at hl 2 rfl) ?_
            refine sk_getr (b := 54) S hK hw kdn_0 (kd_in kdn_0) (C := RX11) (T := TX11) (N := 8) rfl hI11 6 ⟨by decide, rfl, by decide, rfl⟩ rfl (k' := 6) rfl rfl (by decide +kernel) hL1 (okX11_scene (134, .getfield 54, 3) (List.mem_of_getElem? (i := 65) rfl)) ?_
            refine sk_ci (sk_runV (a := 54) (C := RX9) (As := []) (rest := [.ref (sk_ad G 4), .ref (sk_ad G (r_100 + 1))]) S (c_Show_lastFigure l G hM) sk_blind gX11_scene_X9_lastFigure rfl hdX9_lastFigure ⟨⟨rfl, rfl⟩, Nat.le_of_ble_eq_true rfl, Nat.le_of_ble_eq_true rfl⟩ (sk_recv hK hw kdn_54 (kd_in kdn_54) (by decide) rfl) (sk_pre hK hw) rfl hl.1 rfl (Nat.le_of_ble_eq_true rfl) (okX11_scene (137, .invokevirtual 202, 3) (List.mem_of_getElem? (i := 66) rfl)) ⟨Nat.zero_le _, Nat.zero_le _⟩) hw (fun r_137 I_137 H locs hr_r_137 hM hw => ?_)
            refine sk_cr (sk_runV (a := 4) (C := RX2) (As := [.int (iI r_137)]) (rest := [.ref (sk_ad G (r_100 + 1))]) S (c_Gallery_at l G hr_r_137 hM) sk_blind gX11_scene_X2_at rfl hdX2_at ⟨⟨rfl, rfl⟩, Nat.le_of_ble_eq_true rfl, Nat.le_of_ble_eq_true rfl⟩ (sk_recv hK hw kdn_4 (kd_in kdn_4) (by decide) rfl) (sk_pre hK hw) rfl hl.1 rfl (Nat.le_of_ble_eq_true rfl) (okX11_scene (140, .invokevirtual 81, 3) (List.mem_of_getElem? (i := 67) rfl)) ⟨Nat.zero_le _, Nat.zero_le _⟩) hw (fun r_140 I_140 H locs hk_r_140 hM hw => ?_)
            refine lv_aload_n hx hb (okX11_scene (143, .aload_n 0, 1) (List.mem_of_getElem? (i := 68) rfl)) rfl (lv_at hl 2 rfl) ?_
            refine sk_getr (b := 4) S hK hw kdn_0 (kd_in kdn_0) (C := RX11) (T := TX11) (N := 8) rfl hI11 1 ⟨by decide, rfl, by decide, rfl⟩ rfl (k' := 1) rfl rfl (by decide +kernel) hL0 (okX11_scene (144, .getfield 19, 3) (List.mem_of_getElem? (i := 69) rfl)) ?_
            refine lv_iload_n hx hb (okX11_scene (147, .iload_n 1, 1) (List.mem_of_getElem? (i := 70) rfl)) rfl (lv_at hl 3 rfl) ?_
            refine sk_cr (sk_runV (a := 4) (C := RX2) (As := [.int (iI v1)]) (rest := [.ref (sk_ad G r_140), .ref (sk_ad G (r_100 + 1))]) S (c_Gallery_at l G hr_v1 hM) sk_blind gX11_scene_X2_at rfl hdX2_at ⟨⟨rfl, rfl⟩, Nat.le_of_ble_eq_true rfl, Nat.le_of_ble_eq_true rfl⟩ (sk_recv hK hw kdn_4 (kd_in kdn_4) (by decide) rfl) (sk_pre hK hw) rfl hl.1 rfl (Nat.le_of_ble_eq_true rfl) (okX11_scene (148, .invokevirtual 81, 3) (List.mem_of_getElem? (i := 71) rfl)) ⟨Nat.zero_le _, Nat.zero_le _⟩) hw (fun r_148 I_148 H locs hk_r_148 hM hw => ?_)
            refine lv_iload_n hx hb (okX11_scene (151, .iload_n 2, 1) (List.mem_of_getElem? (i := 72) rfl)) rfl (lv_at hl 4 rfl) ?_
            refine lv_aload_n hx hb (okX11_scene (152, .aload_n 0, 1) (List.mem_of_getElem? (i := 73) rfl)) rfl (lv_at hl 2 rfl) ?_
            refine sk_getr (b := 37) S hK hw kdn_0 (kd_in kdn_0) (C := RX11) (T := TX11) (N := 8) rfl hI11 3 ⟨by decide, rfl, by decide, rfl⟩ rfl (k' := 3) rfl rfl (by decide +kernel) hL2 (okX11_scene (153, .getfield 33, 3) (List.mem_of_getElem? (i := 74) rfl)) ?_
            refine sk_ci (sk_runV (a := (r_100 + 1)) (C := RX4) (As := [.ref (sk_ad G r_140), .ref (sk_ad G r_148), .int (iI v2), .ref (sk_ad G 37)]) (rest := []) S (c_Pass_lead l G (k8 hk_r_100).1 hk_r_140 hk_r_148 hr_v2 hM) sk_blind gX11_scene_X4_lead rfl hdX4_lead ⟨⟨rfl, rfl⟩, Nat.le_of_ble_eq_true rfl, Nat.le_of_ble_eq_true rfl⟩ (sk_recv hK hw (k8 hk_r_100).1 (kd_in (k8 hk_r_100).1) (by decide) rfl) (sk_pre hK hw) rfl hl.1 rfl (Nat.le_of_ble_eq_true rfl) (okX11_scene (156, .invokevirtual 150, 3) (List.mem_of_getElem? (i := 75) rfl)) ⟨Nat.zero_le _, Nat.zero_le _⟩) hw (fun r_156 I_156 H locs hr_r_156 hM hw => ?_)
            refine lv_pop hx hb (okX11_scene (159, .pop, 1) (List.mem_of_getElem? (i := 76) rfl)) rfl ?_
            refine lv_aload hx hb (okX11_scene (160, .aload 6, 2) (List.mem_of_getElem? (i := 77) rfl)) (lv_at hl 0 rfl) ?_
            refine sk_getrN (b := (r_100 + 4)) S hK hw hk_r_100 (kd_in hk_r_100) (C := RX8) (T := TX8) (N := 5) rfl hI8 1 ⟨by decide, rfl, by decide, rfl⟩ rfl (k' := 1) rfl rfl (rf81 hk_r_100) (va_Nw.use rfl (hK.2.1 ("SkyLights", 205, "SkyLights$Scene", "home", "LSkyLights$Pass;") (by decide +kernel))) (okX11_scene (162, .getfield 205, 3) (List.mem_of_getElem? (i := 78) rfl)) ?_
            refine lv_aload_n hx hb (okX11_scene (165, .aload_n 0, 1) (List.mem_of_getElem? (i := 79) rfl)) rfl (lv_at hl 2 rfl) ?_
            refine sk_getr (b := 4) S hK hw kdn_0 (kd_in kdn_0) (C := RX11) (T := TX11) (N := 8) rfl hI11 1 ⟨by decide, rfl, by decide, rfl⟩ rfl (k' := 1) rfl rfl (by decide +kernel) hL0 (okX11_scene (166, .getfield 19, 3) (List.mem_of_getElem? (i := 80) rfl)) ?_
            refine lv_iload_n hx hb (okX11_scene (169, .iload_n 1, 1) (List.mem_of_getElem? (i := 81) rfl)) rfl (lv_at hl 3 rfl) ?_
            refine sk_cr (sk_runV (a := 4) (C := RX2) (As := [.int (iI v1)]) (rest := [.ref (sk_ad G (r_100 + 4))]) S (c_Gallery_at l G hr_v1 hM) sk_blind gX11_scene_X2_at rfl hdX2_at ⟨⟨rfl, rfl⟩, Nat.le_of_ble_eq_true rfl, Nat.le_of_ble_eq_true rfl⟩ (sk_recv hK hw kdn_4 (kd_in kdn_4) (by decide) rfl) (sk_pre hK hw) rfl hl.1 rfl (Nat.le_of_ble_eq_true rfl) (okX11_scene (170, .invokevirtual 81, 3) (List.mem_of_getElem? (i := 82) rfl)) ⟨Nat.zero_le _, Nat.zero_le _⟩) hw (fun r_170 I_170 H locs hk_r_170 hM hw => ?_)
            refine lv_aload_n hx hb (okX11_scene (173, .aload_n 0, 1) (List.mem_of_getElem? (i := 83) rfl)) rfl (lv_at hl 2 rfl) ?_
            refine sk_getr (b := 4) S hK hw kdn_0 (kd_in kdn_0) (C := RX11) (T := TX11) (N := 8) rfl hI11 1 ⟨by decide, rfl, by decide, rfl⟩ rfl (k' := 1) rfl rfl (by decide +kernel) hL0 (okX11_scene (174, .getfield 19, 3) (List.mem_of_getElem? (i := 84) rfl)) ?_
            refine lv_iconst (v := iI (-1)) hx hb (okX11_scene (177, .iconst (-1), 1) (List.mem_of_getElem? (i := 85) rfl)) rfl ?_
            refine sk_cr (sk_runV (a := 4) (C := RX2) (As := [.int (iI ((-1)))]) (rest := [.ref (sk_ad G r_170), .ref (sk_ad G (r_100 + 4))]) S (c_Gallery_at l G (by decide) hM) sk_blind gX11_scene_X2_at rfl hdX2_at ⟨⟨rfl, rfl⟩, Nat.le_of_ble_eq_true rfl, Nat.le_of_ble_eq_true rfl⟩ (sk_recv hK hw kdn_4 (kd_in kdn_4) (by decide) rfl) (sk_pre hK hw) rfl hl.1 rfl (Nat.le_of_ble_eq_true rfl) (okX11_scene (178, .invokevirtual 81, 3) (List.mem_of_getElem? (i := 86) rfl)) ⟨Nat.zero_le _, Nat.zero_le _⟩) hw (fun r_178 I_178 H locs hk_r_178 hM hw => ?_)
            refine lv_iload_n hx hb (okX11_scene (181, .iload_n 2, 1) (List.mem_of_getElem? (i := 87) rfl)) rfl (lv_at hl 4 rfl) ?_
            refine lv_aload_n hx hb (okX11_scene (182, .aload_n 0, 1) (List.mem_of_getElem? (i := 88) rfl)) rfl (lv_at hl 2 rfl) ?_
            refine sk_getr (b := 37) S hK hw kdn_0 (kd_in kdn_0) (C := RX11) (T := TX11) (N := 8) rfl hI11 3 ⟨by decide, rfl, by decide, rfl⟩ rfl (k' := 3) rfl rfl (by decide +kernel) hL2 (okX11_scene (183, .getfield 33, 3) (List.mem_of_getElem? (i := 89) rfl)) ?_
            refine sk_ci (sk_runV (a := (r_100 + 4)) (C := RX4) (As := [.ref (sk_ad G r_170), .ref (sk_ad G r_178), .int (iI v2), .ref (sk_ad G 37)]) (rest := []) S (c_Pass_lead l G (k8 hk_r_100).2 hk_r_170 hk_r_178 hr_v2 hM) sk_blind gX11_scene_X4_lead rfl hdX4_lead ⟨⟨rfl, rfl⟩, Nat.le_of_ble_eq_true rfl, Nat.le_of_ble_eq_true rfl⟩ (sk_recv hK hw (k8 hk_r_100).2 (kd_in (k8 hk_r_100).2) (by decide) rfl) (sk_pre hK hw) rfl hl.1 rfl (Nat.le_of_ble_eq_true rfl) (okX11_scene (186, .invokevirtual 150, 3) (List.mem_of_getElem? (i := 90) rfl)) ⟨Nat.zero_le _, Nat.zero_le _⟩) hw (fun r_186 I_186 H locs hr_r_186 hM hw => ?_)
            refine lv_pop hx hb (okX11_scene (189, .pop, 1) (List.mem_of_getElem? (i := 91) rfl)) rfl ?_
            refine lv_aload_n hx hb (okX11_scene (190, .aload_n 0, 1) (List.mem_of_getElem? (i := 92) rfl)) rfl (lv_at hl 2 rfl) ?_
            refine sk_getr (b := 54) S hK hw kdn_0 (kd_in kdn_0) (C := RX11) (T := TX11) (N := 8) rfl hI11 6 ⟨by decide, rfl, by decide, rfl⟩ rfl (k' := 6) rfl rfl (by decide +kernel) hL1 (okX11_scene (191, .getfield 54, 3) (List.mem_of_getElem? (i := 93) rfl)) ?_
            refine sk_ci (sk_runV (a := 54) (C := RX9) (As := []) (rest := []) S (c_Show_keepSpare l G hM) sk_blind gX11_scene_X9_keepSpare rfl hdX9_keepSpare ⟨⟨rfl, rfl⟩, Nat.le_of_ble_eq_true rfl, Nat.le_of_ble_eq_true rfl⟩ (sk_recv hK hw kdn_54 (kd_in kdn_54) (by decide) rfl) (sk_pre hK hw) rfl hl.1 rfl (Nat.le_of_ble_eq_true rfl) (okX11_scene (194, .invokevirtual 208, 3) (List.mem_of_getElem? (i := 94) rfl)) ⟨Nat.zero_le _, Nat.zero_le _⟩) hw (fun r_194 I_194 H locs hr_r_194 hM hw => ?_)
            exact sk_iret hx hb hr0 hlocks hK hw hr_r_194 hM (okX11_scene (197, .ireturn, 1) (List.mem_of_getElem? (i := 95) rfl))
          · have hM := hM.2 c90
            refine lv_bipush (v := iI (-4)) hx hb (okX11_scene (93, .bipush (-4), 2) (List.mem_of_getElem? (i := 45) rfl)) (by decide +kernel) ?_
            exact sk_iret hx hb hr0 hlocks hK hw (by decide) hM (okX11_scene (95, .ireturn, 1) (List.mem_of_getElem? (i := 46) rfl))
        · have hM := hM.2 c75
          refine lv_bipush (v := iI (-3)) hx hb (okX11_scene (78, .bipush (-3), 2) (List.mem_of_getElem? (i := 38) rfl)) (by decide +kernel) ?_
          exact sk_iret hx hb hr0 hlocks hK hw (by decide) hM (okX11_scene (80, .ireturn, 1) (List.mem_of_getElem? (i := 39) rfl))
      · have hM := hM.2 c54
        refine lv_bipush (v := iI (-2)) hx hb (okX11_scene (57, .bipush (-2), 2) (List.mem_of_getElem? (i := 28) rfl)) (by decide +kernel) ?_
        exact sk_iret hx hb hr0 hlocks hK hw (by decide) hM (okX11_scene (59, .ireturn, 1) (List.mem_of_getElem? (i := 29) rfl))
  have hJ_37 : ∀ (v1 v2 v3 v4 : Int) (I : sk_S), rI v1 → rI v2 → rI v3 → rI v4 → J_Sky_scene_37 v1 v2 v3 v4 Q I → ∀ (H : Heap) (locs : List Loc) (ls : Array Slot), sk_W G 198 sk_t I s H locs → lv_has ls 7 [(0, .ref (sk_ad G 0)), (1, .int (iI v1)), (2, .int (iI v2)), (3, .int (iI v3)), (4, .int (iI v4))] → W p l e (headSpec wsX11_scene rmX11_scene).room s m ([.ref (sk_ad G 0), .int (iI p1), .int (iI p2), .int (iI p3), .int (iI p4)].toArray) below meth c H locs 0 0 (MQ below (sk_Qi G 198 sk_t Q) ([.ref (sk_ad G 0), .int (iI p1), .int (iI p2), .int (iI p3), .int (iI p4)].toArray) s 0 0 (sk_A G)) (F0 m 37 ls []) := by
    intro v1 v2 v3 v4 I hr_v1 hr_v2 hr_v3 hr_v4 hM H locs ls hw hl
    unfold J_Sky_scene_37 at hM
    refine lv_iconst (v := iI 0) hx hb (okX11_scene (37, .iconst 0, 1) (List.mem_of_getElem? (i := 19) rfl)) rfl ?_
    exact hJ_38 v1 v2 v3 v4 0 I hr_v1 hr_v2 hr_v3 hr_v4 (by decide) hM H locs ls hw (lv_sub hl [0, 1, 2, 3, 4] rfl)
  unfold M_Sky_scene at hM
  intro H locs hw
  refine lv_aload_n hx hb (okX11_scene (0, .aload_n 0, 1) (List.mem_of_getElem? (i := 0) rfl)) rfl (lv_at hl 0 rfl) ?_
  refine sk_getr (b := 4) S hK hw kdn_0 (kd_in kdn_0) (C := RX11) (T := TX11) (N := 8) rfl hI11 1 ⟨by decide, rfl, by decide, rfl⟩ rfl (k' := 1) rfl rfl (by decide +kernel) hL0 (okX11_scene (1, .getfield 19, 3) (List.mem_of_getElem? (i := 1) rfl)) ?_
  refine lv_iload_n hx hb (okX11_scene (4, .iload_n 1, 1) (List.mem_of_getElem? (i := 2) rfl)) rfl (lv_at hl 1 rfl) ?_
  refine sk_ci (sk_runV (a := 4) (C := RX2) (As := [.int (iI p1)]) (rest := []) S (c_Gallery_has l G hr_p1 hM) sk_blind gX11_scene_X2_has rfl hdX2_has ⟨⟨rfl, rfl⟩, Nat.le_of_ble_eq_true rfl, Nat.le_of_ble_eq_true rfl⟩ (sk_recv hK hw kdn_4 (kd_in kdn_4) (by decide) rfl) (sk_pre hK hw) rfl hl.1 rfl (Nat.le_of_ble_eq_true rfl) (okX11_scene (5, .invokevirtual 114, 3) (List.mem_of_getElem? (i := 3) rfl)) ⟨Nat.zero_le _, Nat.zero_le _⟩) hw (fun r_5 I_5 H locs hr_r_5 hM hw => ?_)
  obtain ⟨hb_r_5, hM⟩ := hM
  refine sk_if_ne (tgt := 13) hx hb hr_r_5 (okX11_scene (8, .ifCond .ne 5, 3) (List.mem_of_getElem? (i := 4) rfl)) (by decide) (fun c8 => ?_) (fun c8 => ?_)
  · have hM := hM.1 c8
    refine lv_iload_n hx hb (okX11_scene (13, .iload_n 2, 1) (List.mem_of_getElem? (i := 7) rfl)) rfl (lv_at hl 2 rfl) ?_
    refine lv_iconst (v := iI 1) hx hb (okX11_scene (14, .iconst 1, 1) (List.mem_of_getElem? (i := 8) rfl)) rfl ?_
    refine lv_bipush (v := iI 30) hx hb (okX11_scene (15, .bipush 30, 2) (List.mem_of_getElem? (i := 9) rfl)) (by decide +kernel) ?_
    refine sk_ci (sk_runS (As := [.int (iI p2), .int (iI 1), .int (iI 30)]) (rest := []) S (c_Sky_isWithin l G hr_p2 (by decide) (by decide) hM) sk_blind gX11_scene_X11_isWithin rfl hdX11_isWithin ⟨⟨rfl, rfl⟩, Nat.le_of_ble_eq_true rfl, Nat.le_of_ble_eq_true rfl⟩ (sk_pre hK hw) rfl hl.1 rfl (Nat.le_of_ble_eq_true rfl) (okX11_scene (17, .invokestatic 70, 3) (List.mem_of_getElem? (i := 10) rfl)) ⟨Nat.zero_le _, Nat.zero_le _⟩) hw (fun r_17 I_17 H locs hr_r_17 hM hw => ?_)
    obtain ⟨hb_r_17, hM⟩ := hM
    refine sk_if_eq (tgt := 37) hx hb hr_r_17 (okX11_scene (20, .ifCond .eq 17, 3) (List.mem_of_getElem? (i := 11) rfl)) (by decide) (fun c20 => ?_) (fun c20 => ?_)
    · have hM := hM.1 c20
      exact hJ_37 p1 p2 p3 p4 I_17 hr_p1 hr_p2 hr_p3 hr_p4 hM H locs ls hw (lv_sub hl [0, 1, 2, 3, 4] rfl)
    · have hM := hM.2 c20
      refine lv_iload_n hx hb (okX11_scene (23, .iload_n 3, 1) (List.mem_of_getElem? (i := 12) rfl)) rfl (lv_at hl 3 rfl) ?_
      refine lv_iconst (v := iI 0) hx hb (okX11_scene (24, .iconst 0, 1) (List.mem_of_getElem? (i := 13) rfl)) rfl ?_
      refine lv_bipush (v := iI 100) hx hb (okX11_scene (25, .bipush 100, 2) (List.mem_of_getElem? (i := 14) rfl)) (by decide +kernel) ?_
      refine sk_ci (sk_runS (As := [.int (iI p3), .int (iI 0), .int (iI 100)]) (rest := []) S (c_Sky_isWithin l G hr_p3 (by decide) (by decide) hM) sk_blind gX11_scene_X11_isWithin rfl hdX11_isWithin ⟨⟨rfl, rfl⟩, Nat.le_of_ble_eq_true rfl, Nat.le_of_ble_eq_true rfl⟩ (sk_pre hK hw) rfl hl.1 rfl (Nat.le_of_ble_eq_true rfl) (okX11_scene (27, .invokestatic 70, 3) (List.mem_of_getElem? (i := 15) rfl)) ⟨Nat.zero_le _, Nat.zero_le _⟩) hw (fun r_27 I_27 H locs hr_r_27 hM hw => ?_)
      obtain ⟨hb_r_27, hM⟩ := hM
      refine sk_if_eq (tgt := 37) hx hb hr_r_27 (okX11_scene (30, .ifCond .eq 7, 3) (List.mem_of_getElem? (i := 16) rfl)) (by decide) (fun c30 => ?_) (fun c30 => ?_)
      · have hM := hM.1 c30
        exact hJ_37 p1 p2 p3 p4 I_27 hr_p1 hr_p2 hr_p3 hr_p4 hM H locs ls hw (lv_sub hl [0, 1, 2, 3, 4] rfl)
      · have hM := hM.2 c30
        refine lv_iconst (v := iI 1) hx hb (okX11_scene (33, .iconst 1, 1) (List.mem_of_getElem? (i := 17) rfl)) rfl ?_
        refine lv_goto (tgt := 38) hx hb (okX11_scene (34, .goto 4, 3) (List.mem_of_getElem? (i := 18) rfl)) (by decide) ?_
        exact hJ_38 p1 p2 p3 p4 1 I_27 hr_p1 hr_p2 hr_p3 hr_p4 (by decide) hM H locs ls hw (lv_sub hl [0, 1, 2, 3, 4] rfl)
  · have hM := hM.2 c8
    refine lv_iconst (v := iI (-1)) hx hb (okX11_scene (11, .iconst (-1), 1) (List.mem_of_getElem? (i := 5) rfl)) rfl ?_
    exact sk_iret hx hb hr0 hlocks hK hw (by decide) hM (okX11_scene (12, .ireturn, 1) (List.mem_of_getElem? (i := 6) rfl))
def rmX11_spread : Room := { frames := 3, cells := 0, slots := 0, locals := 166 }
set_option maxHeartbeats 4000000 in
set_option maxRecDepth 100000 in
theorem c_Sky_spread (l : Launch) (G : sk_G) {p1 : Int} (hr_p1 : rI p1) {Q : Int → sk_S → Prop} {I : sk_S} (hM : M_Sky_spread p1 Q I) : Met l yX11_spread wsX11_spread rmX11_spread (va_Pc [.ref (sk_ad G 0), .int (iI p1)] (sk_U G 198 sk_t I)) (sk_Qi G 198 sk_t Q) 0 0 (sk_A G) := by
  refine Met.ofW (cc := cX11_spread) (maxL := 2) (ret := (some .int)) (by decide) rfl ?_
  intro p e s m args below meth c s₁ B hml hv
  obtain ⟨rfl, hU, hK⟩ := hv
  have hx := B.exec
  have hb := B.bytes
  have hr0 := B.returns
  have hts := atoms_spec (ws := wsX11_spread) B.pre
  have hown : s.vm.findClass RX11 = some m.cls := findClass_of_methodNamed B.named
  have hlocks := B.notSynchronized
  have S : CallFix p m c cX11_spread 2 s ([.ref (sk_ad G 0), .int (iI p1)].toArray) wsX11_spread RX11 := ⟨hx, hb, hml, hown, hts⟩
  have hL0 := hts (.fieldLink RX11 19 "SkyLights" "gallery" "LSkyLights$Gallery;") (by decide +kernel)
  have hI11 : ∀ w ∈ u_ws RX11 TX11 8, w ∈ wsX11_spread := by decide +kernel
  have hw : sk_W G 198 sk_t I s s.heap [] := ⟨hU, va_S.rf⟩
  have hl := lv_entry ([.ref (sk_ad G 0), .int (iI p1)]) (n := 2) (Nat.le_of_ble_eq_true rfl)
  rw [lg_entry_eq]
  generalize (lg_sl ([.ref (sk_ad G 0), .int (iI p1)]) ++ List.replicate (2 - (lg_sl ([.ref (sk_ad G 0), .int (iI p1)])).length) Slot.unset).toArray = ls at hl ⊢
  have hl : lv_has ls 2 [(0, .ref (sk_ad G 0)), (1, .int (iI p1))] := hl
  suffices hgo : ∀ (H : Heap) (locs : List Loc), sk_W G 198 sk_t I s H locs → W p l e (headSpec wsX11_spread rmX11_spread).room s m ([.ref (sk_ad G 0), .int (iI p1)].toArray) below meth c H locs 0 0 (MQ below (sk_Qi G 198 sk_t Q) ([.ref (sk_ad G 0), .int (iI p1)].toArray) s 0 0 (sk_A G)) (F0 m 0 ls []) from hgo _ _ hw
  unfold M_Sky_spread at hM
  intro H locs hw
  refine lv_aload_n hx hb (okX11_spread (0, .aload_n 0, 1) (List.mem_of_getElem? (i := 0) rfl)) rfl (lv_at hl 0 rfl) ?_
  refine sk_getr (b := 4) S hK hw kdn_0 (kd_in kdn_0) (C := RX11) (T := TX11) (N := 8) rfl hI11 1 ⟨by decide, rfl, by decide, rfl⟩ rfl (k' := 1) rfl rfl (by decide +kernel) hL0 (okX11_spread (1, .getfield 19, 3) (List.mem_of_getElem? (i := 1) rfl)) ?_
  refine lv_iload_n hx hb (okX11_spread (4, .iload_n 1, 1) (List.mem_of_getElem? (i := 2) rfl)) rfl (lv_at hl 1 rfl) ?_
  refine sk_ci (sk_runV (a := 4) (C := RX2) (As := [.int (iI p1)]) (rest := []) S (c_Gallery_has l G hr_p1 hM) sk_blind gX11_spread_X2_has rfl hdX2_has ⟨⟨rfl, rfl⟩, Nat.le_of_ble_eq_true rfl, Nat.le_of_ble_eq_true rfl⟩ (sk_recv hK hw kdn_4 (kd_in kdn_4) (by decide) rfl) (sk_pre hK hw) rfl hl.1 rfl (Nat.le_of_ble_eq_true rfl) (okX11_spread (5, .invokevirtual 114, 3) (List.mem_of_getElem? (i := 3) rfl)) ⟨Nat.zero_le _, Nat.zero_le _⟩) hw (fun r_5 I_5 H locs hr_r_5 hM hw => ?_)
  obtain ⟨hb_r_5, hM⟩ := hM
  refine sk_if_eq (tgt := 26) hx hb hr_r_5 (okX11_spread (8, .ifCond .eq 18, 3) (List.mem_of_getElem? (i := 4) rfl)) (by decide) (fun c8 => ?_) (fun c8 => ?_)
  · have hM := hM.1 c8
    refine lv_iconst (v := iI (-1)) hx hb (okX11_spread (26, .iconst (-1), 1) (List.mem_of_getElem? (i := 12) rfl)) rfl ?_
    exact sk_iret hx hb hr0 hlocks hK hw (by decide) hM (okX11_spread (27, .ireturn, 1) (List.mem_of_getElem? (i := 13) rfl))
  · have hM := hM.2 c8
    refine lv_aload_n hx hb (okX11_spread (11, .aload_n 0, 1) (List.mem_of_getElem? (i := 5) rfl)) rfl (lv_at hl 0 rfl) ?_
    refine sk_getr (b := 4) S hK hw kdn_0 (kd_in kdn_0) (C := RX11) (T := TX11) (N := 8) rfl hI11 1 ⟨by decide, rfl, by decide, rfl⟩ rfl (k' := 1) rfl rfl (by decide +kernel) hL0 (okX11_spread (12, .getfield 19, 3) (List.mem_of_getElem? (i := 6) rfl)) ?_
    refine lv_iload_n hx hb (okX11_spread (15, .iload_n 1, 1) (List.mem_of_getElem? (i := 7) rfl)) rfl (lv_at hl 1 rfl) ?_
    refine sk_cr (sk_runV (a := 4) (C := RX2) (As := [.int (iI p1)]) (rest := []) S (c_Gallery_at l G hr_p1 hM) sk_blind gX11_spread_X2_at rfl hdX2_at ⟨⟨rfl, rfl⟩, Nat.le_of_ble_eq_true rfl, Nat.le_of_ble_eq_true rfl⟩ (sk_recv hK hw kdn_4 (kd_in kdn_4) (by decide) rfl) (sk_pre hK hw) rfl hl.1 rfl (Nat.le_of_ble_eq_true rfl) (okX11_spread (16, .invokevirtual 81, 3) (List.mem_of_getElem? (i := 8) rfl)) ⟨Nat.zero_le _, Nat.zero_le _⟩) hw (fun r_16 I_16 H locs hk_r_16 hM hw => ?_)
    refine sk_ci (sk_runV (a := r_16) (C := RX5) (As := []) (rest := []) S (c_Places_size l G hk_r_16 hM) sk_blind gX11_spread_X5_size rfl hdX5_size ⟨⟨rfl, rfl⟩, Nat.le_of_ble_eq_true rfl, Nat.le_of_ble_eq_true rfl⟩ (sk_recv hK hw hk_r_16 (kd_in hk_r_16) (by decide) rfl) (sk_pre hK hw) rfl hl.1 rfl (Nat.le_of_ble_eq_true rfl) (okX11_spread (19, .invokevirtual 117, 3) (List.mem_of_getElem? (i := 9) rfl)) ⟨Nat.zero_le _, Nat.zero_le _⟩) hw (fun r_19 I_19 H locs hr_r_19 hM hw => ?_)
    refine lv_iconst (v := iI 2) hx hb (okX11_spread (22, .iconst 2, 1) (List.mem_of_getElem? (i := 10) rfl)) rfl ?_
    refine sk_icmp_ge (tgt := 28) hx hb hr_r_19 (by decide) (okX11_spread (23, .if_icmp .ge 5, 3) (List.mem_of_getElem? (i := 11) rfl)) (by decide) (fun c23 => ?_) (fun c23 => ?_)
    · have hM := hM.1 c23
      refine lv_aload_n hx hb (okX11_spread (28, .aload_n 0, 1) (List.mem_of_getElem? (i := 14) rfl)) rfl (lv_at hl 0 rfl) ?_
      refine sk_getr (b := 4) S hK hw kdn_0 (kd_in kdn_0) (C := RX11) (T := TX11) (N := 8) rfl hI11 1 ⟨by decide, rfl, by decide, rfl⟩ rfl (k' := 1) rfl rfl (by decide +kernel) hL0 (okX11_spread (29, .getfield 19, 3) (List.mem_of_getElem? (i := 15) rfl)) ?_
      refine lv_iload_n hx hb (okX11_spread (32, .iload_n 1, 1) (List.mem_of_getElem? (i := 16) rfl)) rfl (lv_at hl 1 rfl) ?_
      refine sk_cr (sk_runV (a := 4) (C := RX2) (As := [.int (iI p1)]) (rest := []) S (c_Gallery_at l G hr_p1 hM) sk_blind gX11_spread_X2_at rfl hdX2_at ⟨⟨rfl, rfl⟩, Nat.le_of_ble_eq_true rfl, Nat.le_of_ble_eq_true rfl⟩ (sk_recv hK hw kdn_4 (kd_in kdn_4) (by decide) rfl) (sk_pre hK hw) rfl hl.1 rfl (Nat.le_of_ble_eq_true rfl) (okX11_spread (33, .invokevirtual 81, 3) (List.mem_of_getElem? (i := 17) rfl)) ⟨Nat.zero_le _, Nat.zero_le _⟩) hw (fun r_33 I_33 H locs hk_r_33 hM hw => ?_)
      refine sk_ci (sk_runV (a := r_33) (C := RX5) (As := []) (rest := []) S (c_Places_leastWay l G hk_r_33 hM) sk_blind gX11_spread_X5_leastWay rfl hdX5_leastWay ⟨⟨rfl, rfl⟩, Nat.le_of_ble_eq_true rfl, Nat.le_of_ble_eq_true rfl⟩ (sk_recv hK hw hk_r_33 (kd_in hk_r_33) (by decide) rfl) (sk_pre hK hw) rfl hl.1 rfl (Nat.le_of_ble_eq_true rfl) (okX11_spread (36, .invokevirtual 131, 3) (List.mem_of_getElem? (i := 18) rfl)) ⟨Nat.zero_le _, Nat.zero_le _⟩) hw (fun r_36 I_36 H locs hr_r_36 hM hw => ?_)
      exact sk_iret hx hb hr0 hlocks hK hw hr_r_36 hM (okX11_spread (39, .ireturn, 1) (List.mem_of_getElem? (i := 19) rfl))
    · have hM := hM.2 c23
      refine lv_iconst (v := iI (-1)) hx hb (okX11_spread (26, .iconst (-1), 1) (List.mem_of_getElem? (i := 12) rfl)) rfl ?_
      exact sk_iret hx hb hr0 hlocks hK hw (by decide) hM (okX11_spread (27, .ireturn, 1) (List.mem_of_getElem? (i := 13) rfl))
def rmX11_stands : Room := { frames := 3, cells := 0, slots := 0, locals := 162 }
set_option maxHeartbeats 4000000 in
set_option maxRecDepth 100000 in
theorem c_Sky_stands (l : Launch) (G : sk_G) {p1 p2 : Int} (hr_p1 : rI p1) (hr_p2 : rI p2) {Q : Int → sk_S → Prop} {I : sk_S} (hM : M_Sky_stands p1 p2 Q I) : Met l yX11_stands wsX11_stands rmX11_stands (va_Pc [.ref (sk_ad G 0), .int (iI p1), .int (iI p2)] (sk_U G 198 sk_t I)) (sk_Qi G 198 sk_t Q) 0 0 (sk_A G) := by
  refine Met.ofW (cc := cX11_stands) (maxL := 3) (ret := (some .int)) (by decide) rfl ?_
  intro p e s m args below meth c s₁ B hml hv
  obtain ⟨rfl, hU, hK⟩ := hv
  have hx := B.exec
  have hb := B.bytes
  have hr0 := B.returns
  have hts := atoms_spec (ws := wsX11_stands) B.pre
  have hown : s.vm.findClass RX11 = some m.cls := findClass_of_methodNamed B.named
  have hlocks := B.notSynchronized
  have S : CallFix p m c cX11_stands 3 s ([.ref (sk_ad G 0), .int (iI p1), .int (iI p2)].toArray) wsX11_stands RX11 := ⟨hx, hb, hml, hown, hts⟩
  have hL0 := hts (.fieldLink RX11 54 "SkyLights" "show" "LSkyLights$Show;") (by decide +kernel)
  have hI11 : ∀ w ∈ u_ws RX11 TX11 8, w ∈ wsX11_stands := by decide +kernel
  have hw : sk_W G 198 sk_t I s s.heap [] := ⟨hU, va_S.rf⟩
  have hl := lv_entry ([.ref (sk_ad G 0), .int (iI p1), .int (iI p2)]) (n := 3) (Nat.le_of_ble_eq_true rfl)
  rw [lg_entry_eq]
  generalize (lg_sl ([.ref (sk_ad G 0), .int (iI p1), .int (iI p2)]) ++ List.replicate (3 - (lg_sl ([.ref (sk_ad G 0), .int (iI p1), .int (iI p2)])).length) Slot.unset).toArray = ls at hl ⊢
  have hl : lv_has ls 3 [(0, .ref (sk_ad G 0)), (1, .int (iI p1)), (2, .int (iI p2))] := hl
  suffices hgo : ∀ (H : Heap) (locs : List Loc), sk_W G 198 sk_t I s H locs → W p l e (headSpec wsX11_stands rmX11_stands).room s m ([.ref (sk_ad G 0), .int (iI p1), .int (iI p2)].toArray) below meth c H locs 0 0 (MQ below (sk_Qi G 198 sk_t Q) ([.ref (sk_ad G 0), .int (iI p1), .int (iI p2)].toArray) s 0 0 (sk_A G)) (F0 m 0 ls []) from hgo _ _ hw
  unfold M_Sky_stands at hM
  intro H locs hw
  refine lv_aload_n hx hb (okX11_stands (0, .aload_n 0, 1) (List.mem_of_getElem? (i := 0) rfl)) rfl (lv_at hl 0 rfl) ?_
  refine lv_iload_n hx hb (okX11_stands (1, .iload_n 1, 1) (List.mem_of_getElem? (i := 1) rfl)) rfl (lv_at hl 1 rfl) ?_
  refine sk_ci (sk_runV (a := 0) (C := RX11) (As := [.int (iI p1)]) (rest := []) S (c_Sky_isFlyer l G hr_p1 hM) sk_blind gX11_stands_X11_isFlyer rfl hdX11_isFlyer ⟨⟨rfl, rfl⟩, Nat.le_of_ble_eq_true rfl, Nat.le_of_ble_eq_true rfl⟩ (sk_recv hK hw kdn_0 (kd_in kdn_0) (by decide) rfl) (sk_pre hK hw) rfl hl.1 rfl (Nat.le_of_ble_eq_true rfl) (okX11_stands (2, .invokevirtual 209, 3) (List.mem_of_getElem? (i := 2) rfl)) ⟨Nat.zero_le _, Nat.zero_le _⟩) hw (fun r_2 I_2 H locs hr_r_2 hM hw => ?_)
  obtain ⟨hb_r_2, hM⟩ := hM
  refine sk_if_eq (tgt := 31) hx hb hr_r_2 (okX11_stands (5, .ifCond .eq 26, 3) (List.mem_of_getElem? (i := 3) rfl)) (by decide) (fun c5 => ?_) (fun c5 => ?_)
  · have hM := hM.1 c5
    refine lv_iconst (v := iI (-1)) hx hb (okX11_stands (31, .iconst (-1), 1) (List.mem_of_getElem? (i := 15) rfl)) rfl ?_
    exact sk_iret hx hb hr0 hlocks hK hw (by decide) hM (okX11_stands (32, .ireturn, 1) (List.mem_of_getElem? (i := 16) rfl))
  · have hM := hM.2 c5
    refine lv_aload_n hx hb (okX11_stands (8, .aload_n 0, 1) (List.mem_of_getElem? (i := 4) rfl)) rfl (lv_at hl 0 rfl) ?_
    refine sk_getr (b := 54) S hK hw kdn_0 (kd_in kdn_0) (C := RX11) (T := TX11) (N := 8) rfl hI11 6 ⟨by decide, rfl, by decide, rfl⟩ rfl (k' := 6) rfl rfl (by decide +kernel) hL0 (okX11_stands (9, .getfield 54, 3) (List.mem_of_getElem? (i := 5) rfl)) ?_
    refine lv_iload_n hx hb (okX11_stands (12, .iload_n 2, 1) (List.mem_of_getElem? (i := 6) rfl)) rfl (lv_at hl 2 rfl) ?_
    refine sk_ci (sk_runV (a := 54) (C := RX9) (As := [.int (iI p2)]) (rest := []) S (c_Show_has l G hr_p2 hM) sk_blind gX11_stands_X9_has rfl hdX9_has ⟨⟨rfl, rfl⟩, Nat.le_of_ble_eq_true rfl, Nat.le_of_ble_eq_true rfl⟩ (sk_recv hK hw kdn_54 (kd_in kdn_54) (by decide) rfl) (sk_pre hK hw) rfl hl.1 rfl (Nat.le_of_ble_eq_true rfl) (okX11_stands (13, .invokevirtual 212, 3) (List.mem_of_getElem? (i := 7) rfl)) ⟨Nat.zero_le _, Nat.zero_le _⟩) hw (fun r_13 I_13 H locs hr_r_13 hM hw => ?_)
    obtain ⟨hb_r_13, hM⟩ := hM
    refine sk_if_eq (tgt := 31) hx hb hr_r_13 (okX11_stands (16, .ifCond .eq 15, 3) (List.mem_of_getElem? (i := 8) rfl)) (by decide) (fun c16 => ?_) (fun c16 => ?_)
    · have hM := hM.1 c16
      refine lv_iconst (v := iI (-1)) hx hb (okX11_stands (31, .iconst (-1), 1) (List.mem_of_getElem? (i := 15) rfl)) rfl ?_
      exact sk_iret hx hb hr0 hlocks hK hw (by decide) hM (okX11_stands (32, .ireturn, 1) (List.mem_of_getElem? (i := 16) rfl))
    · have hM := hM.2 c16
      refine lv_aload_n hx hb (okX11_stands (19, .aload_n 0, 1) (List.mem_of_getElem? (i := 9) rfl)) rfl (lv_at hl 0 rfl) ?_
      refine sk_getr (b := 54) S hK hw kdn_0 (kd_in kdn_0) (C := RX11) (T := TX11) (N := 8) rfl hI11 6 ⟨by decide, rfl, by decide, rfl⟩ rfl (k' := 6) rfl rfl (by decide +kernel) hL0 (okX11_stands (20, .getfield 54, 3) (List.mem_of_getElem? (i := 10) rfl)) ?_
      refine lv_iload_n hx hb (okX11_stands (23, .iload_n 1, 1) (List.mem_of_getElem? (i := 11) rfl)) rfl (lv_at hl 1 rfl) ?_
      refine lv_iload_n hx hb (okX11_stands (24, .iload_n 2, 1) (List.mem_of_getElem? (i := 12) rfl)) rfl (lv_at hl 2 rfl) ?_
      refine sk_ci (sk_runV (a := 54) (C := RX9) (As := [.int (iI p1), .int (iI p2)]) (rest := []) S (c_Show_place l G hr_p1 hr_p2 hM) sk_blind gX11_stands_X9_place rfl hdX9_place ⟨⟨rfl, rfl⟩, Nat.le_of_ble_eq_true rfl, Nat.le_of_ble_eq_true rfl⟩ (sk_recv hK hw kdn_54 (kd_in kdn_54) (by decide) rfl) (sk_pre hK hw) rfl hl.1 rfl (Nat.le_of_ble_eq_true rfl) (okX11_stands (25, .invokevirtual 213, 3) (List.mem_of_getElem? (i := 13) rfl)) ⟨Nat.zero_le _, Nat.zero_le _⟩) hw (fun r_25 I_25 H locs hr_r_25 hM hw => ?_)
      refine lv_goto (tgt := 32) hx hb (okX11_stands (28, .goto 4, 3) (List.mem_of_getElem? (i := 14) rfl)) (by decide) ?_
      exact sk_iret hx hb hr0 hlocks hK hw hr_r_25 hM (okX11_stands (32, .ireturn, 1) (List.mem_of_getElem? (i := 16) rfl))
def rmX11_unclean : Room := { frames := 5, cells := 0, slots := 0, locals := 302 }
set_option maxHeartbeats 4000000 in
set_option maxRecDepth 100000 in
theorem c_Sky_unclean (l : Launch) (G : sk_G) {Q : Int → sk_S → Prop} {I : sk_S} (hM : M_Sky_unclean Q I) : Met l yX11_unclean wsX11_unclean rmX11_unclean (va_Pc [.ref (sk_ad G 0)] (sk_U G 198 sk_t I)) (sk_Qi G 198 sk_t Q) 0 0 (sk_A G) := by
  refine Met.ofW (cc := cX11_unclean) (maxL := 3) (ret := (some .int)) (by decide) rfl ?_
  intro p e s m args below meth c s₁ B hml hv
  obtain ⟨rfl, hU, hK⟩ := hv
  have hx := B.exec
  have hb := B.bytes
  have hr0 := B.returns
  have hts := atoms_spec (ws := wsX11_unclean) B.pre
  have hown : s.vm.findClass RX11 = some m.cls := findClass_of_methodNamed B.named
  have hlocks := B.notSynchronized
  have S : CallFix p m c cX11_unclean 3 s ([.ref (sk_ad G 0)].toArray) wsX11_unclean RX11 := ⟨hx, hb, hml, hown, hts⟩
  have hL0 := hts (.fieldLink RX11 54 "SkyLights" "show" "LSkyLights$Show;") (by decide +kernel)
  have hL1 := hts (.fieldLink RX11 26 "SkyLights" "air" "LSkyLights$Air;") (by decide +kernel)
  have hI8 : ∀ w ∈ u_ws RX8 TX8 5, w ∈ wsX11_unclean := by decide +kernel
  have hI11 : ∀ w ∈ u_ws RX11 TX11 8, w ∈ wsX11_unclean := by decide +kernel
  have hw : sk_W G 198 sk_t I s s.heap [] := ⟨hU, va_S.rf⟩
  have hl := lv_entry ([.ref (sk_ad G 0)]) (n := 3) (Nat.le_of_ble_eq_true rfl)
  rw [lg_entry_eq]
  generalize (lg_sl ([.ref (sk_ad G 0)]) ++ List.replicate (3 - (lg_sl ([.ref (sk_ad G 0)])).length) Slot.unset).toArray = ls at hl ⊢
  have hl : lv_has ls 3 [(0, .ref (sk_ad G 0))] := hl
  suffices hgo : ∀ (H : Heap) (locs : List Loc), sk_W G 198 sk_t I s H locs → W p l e (headSpec wsX11_unclean rmX11_unclean).room s m ([.ref (sk_ad G 0)].toArray) below meth c H locs 0 0 (MQ below (sk_Qi G 198 sk_t Q) ([.ref (sk_ad G 0)].toArray) s 0 0 (sk_A G)) (F0 m 0 ls []) from hgo _ _ hw
  have hJ_48 : ∀ (v1 : Int) (I : sk_S), rI v1 → J_Sky_unclean_48 v1 Q I → ∀ (H : Heap) (locs : List Loc) (ls : Array Slot), sk_W G 198 sk_t I s H locs → lv_has ls 3 [(0, .ref (sk_ad G 0)), (1, .int (iI v1))] → W p l e (headSpec wsX11_unclean rmX11_unclean).room s m ([.ref (sk_ad G 0)].toArray) below meth c H locs 0 0 (MQ below (sk_Qi G 198 sk_t Q) ([.ref (sk_ad G 0)].toArray) s 0 0 (sk_A G)) (F0 m 48 ls []) := by
    intro v1 I hr_v1 hM H locs ls hw hl
    unfold J_Sky_unclean_48 at hM
    refine lv_aload_n hx hb (okX11_unclean (48, .aload_n 0, 1) (List.mem_of_getElem? (i := 26) rfl)) rfl (lv_at hl 0 rfl) ?_
    refine sk_getr (b := 54) S hK hw kdn_0 (kd_in kdn_0) (C := RX11) (T := TX11) (N := 8) rfl hI11 6 ⟨by decide, rfl, by decide, rfl⟩ rfl (k' := 6) rfl rfl (by decide +kernel) hL0 (okX11_unclean (49, .getfield 54, 3) (List.mem_of_getElem? (i := 27) rfl)) ?_
    refine sk_ci (sk_runV (a := 54) (C := RX9) (As := []) (rest := []) S (c_Show_size l G hM) sk_blind gX11_unclean_X9_size rfl hdX9_size ⟨⟨rfl, rfl⟩, Nat.le_of_ble_eq_true rfl, Nat.le_of_ble_eq_true rfl⟩ (sk_recv hK hw kdn_54 (kd_in kdn_54) (by decide) rfl) (sk_pre hK hw) rfl hl.1 rfl (Nat.le_of_ble_eq_true rfl) (okX11_unclean (52, .invokevirtual 74, 3) (List.mem_of_getElem? (i := 28) rfl)) ⟨Nat.zero_le _, Nat.zero_le _⟩) hw (fun r_52 I_52 H locs hr_r_52 hM hw => ?_)
    refine sk_if_le (tgt := 93) hx hb hr_r_52 (okX11_unclean (55, .ifCond .le 38, 3) (List.mem_of_getElem? (i := 29) rfl)) (by decide) (fun c55 => ?_) (fun c55 => ?_)
    · have hM := hM.1 c55
      refine lv_iload_n hx hb (okX11_unclean (93, .iload_n 1, 1) (List.mem_of_getElem? (i := 47) rfl)) rfl (lv_at hl 1 rfl) ?_
      exact sk_iret hx hb hr0 hlocks hK hw hr_v1 hM (okX11_unclean (94, .ireturn, 1) (List.mem_of_getElem? (i := 48) rfl))
    · have hM := hM.2 c55
      refine lv_aload_n hx hb (okX11_unclean (58, .aload_n 0, 1) (List.mem_of_getElem? (i := 30) rfl)) rfl (lv_at hl 0 rfl) ?_
      refine sk_getr (b := 54) S hK hw kdn_0 (kd_in kdn_0) (C := RX11) (T := TX11) (N := 8) rfl hI11 6 ⟨by decide, rfl, by decide, rfl⟩ rfl (k' := 6) rfl rfl (by decide +kernel) hL0 (okX11_unclean (59, .getfield 54, 3) (List.mem_of_getElem? (i := 31) rfl)) ?_
      refine lv_aload_n hx hb (okX11_unclean (62, .aload_n 0, 1) (List.mem_of_getElem? (i := 32) rfl)) rfl (lv_at hl 0 rfl) ?_
      refine sk_getr (b := 54) S hK hw kdn_0 (kd_in kdn_0) (C := RX11) (T := TX11) (N := 8) rfl hI11 6 ⟨by decide, rfl, by decide, rfl⟩ rfl (k' := 6) rfl rfl (by decide +kernel) hL0 (okX11_unclean (63, .getfield 54, 3) (List.mem_of_getElem? (i := 33) rfl)) ?_
      refine sk_ci (sk_runV (a := 54) (C := RX9) (As := []) (rest := [.ref (sk_ad G 54)]) S (c_Show_size l G hM) sk_blind gX11_unclean_X9_size rfl hdX9_size ⟨⟨rfl, rfl⟩, Nat.le_of_ble_eq_true rfl, Nat.le_of_ble_eq_true rfl⟩ (sk_recv hK hw kdn_54 (kd_in kdn_54) (by decide) rfl) (sk_pre hK hw) rfl hl.1 rfl (Nat.le_of_ble_eq_true rfl) (okX11_unclean (66, .invokevirtual 74, 3) (List.mem_of_getElem? (i := 34) rfl)) ⟨Nat.zero_le _, Nat.zero_le _⟩) hw (fun r_66 I_66 H locs hr_r_66 hM hw => ?_)
      refine lv_iconst (v := iI 1) hx hb (okX11_unclean (69, .iconst 1, 1) (List.mem_of_getElem? (i := 35) rfl)) rfl ?_
      refine sk_isub hx hb (okX11_unclean (70, .isub, 1) (List.mem_of_getElem? (i := 36) rfl)) ?_
      obtain ⟨hr2, hM⟩ := hM
      refine sk_cr (sk_runV (a := 54) (C := RX9) (As := [.int (iI (r_66 - 1))]) (rest := []) S (c_Show_at l G hr2 hM) sk_blind gX11_unclean_X9_at rfl hdX9_at ⟨⟨rfl, rfl⟩, Nat.le_of_ble_eq_true rfl, Nat.le_of_ble_eq_true rfl⟩ (sk_recv hK hw kdn_54 (kd_in kdn_54) (by decide) rfl) (sk_pre hK hw) rfl hl.1 rfl (Nat.le_of_ble_eq_true rfl) (okX11_unclean (71, .invokevirtual 232, 3) (List.mem_of_getElem? (i := 37) rfl)) ⟨Nat.zero_le _, Nat.zero_le _⟩) hw (fun r_71 I_71 H locs hk_r_71 hM hw => ?_)
      refine sk_getrN (b := (r_71 + 4)) S hK hw hk_r_71 (kd_in hk_r_71) (C := RX8) (T := TX8) (N := 5) rfl hI8 1 ⟨by decide, rfl, by decide, rfl⟩ rfl (k' := 1) rfl rfl (rf81 hk_r_71) (va_Nw.use rfl (hK.2.1 ("SkyLights", 205, "SkyLights$Scene", "home", "LSkyLights$Pass;") (by decide +kernel))) (okX11_unclean (74, .getfield 205, 3) (List.mem_of_getElem? (i := 38) rfl)) ?_
      refine lv_aload_n hx hb (okX11_unclean (77, .aload_n 0, 1) (List.mem_of_getElem? (i := 39) rfl)) rfl (lv_at hl 0 rfl) ?_
      refine sk_getr (b := 36) S hK hw kdn_0 (kd_in kdn_0) (C := RX11) (T := TX11) (N := 8) rfl hI11 2 ⟨by decide, rfl, by decide, rfl⟩ rfl (k' := 2) rfl rfl (by decide +kernel) hL1 (okX11_unclean (78, .getfield 26, 3) (List.mem_of_getElem? (i := 40) rfl)) ?_
      refine sk_ci (sk_runV (a := (r_71 + 4)) (C := RX4) (As := [.ref (sk_ad G 36)]) (rest := []) S (c_Pass_isClean l G (k8 hk_r_71).2 hM) sk_blind gX11_unclean_X4_isClean rfl hdX4_isClean ⟨⟨rfl, rfl⟩, Nat.le_of_ble_eq_true rfl, Nat.le_of_ble_eq_true rfl⟩ (sk_recv hK hw (k8 hk_r_71).2 (kd_in (k8 hk_r_71).2) (by decide) rfl) (sk_pre hK hw) rfl hl.1 rfl (Nat.le_of_ble_eq_true rfl) (okX11_unclean (81, .invokevirtual 174, 3) (List.mem_of_getElem? (i := 41) rfl)) ⟨Nat.zero_le _, Nat.zero_le _⟩) hw (fun r_81 I_81 H locs hr_r_81 hM hw => ?_)
      obtain ⟨hb_r_81, hM⟩ := hM
      refine sk_if_ne (tgt := 93) hx hb hr_r_81 (okX11_unclean (84, .ifCond .ne 9, 3) (List.mem_of_getElem? (i := 42) rfl)) (by decide) (fun c84 => ?_) (fun c84 => ?_)
      · have hM := hM.1 c84
        refine lv_iload_n hx hb (okX11_unclean (93, .iload_n 1, 1) (List.mem_of_getElem? (i := 47) rfl)) rfl (lv_at hl 1 rfl) ?_
        exact sk_iret hx hb hr0 hlocks hK hw hr_v1 hM (okX11_unclean (94, .ireturn, 1) (List.mem_of_getElem? (i := 48) rfl))
      · have hM := hM.2 c84
        refine lv_iload_n hx hb (okX11_unclean (87, .iload_n 1, 1) (List.mem_of_getElem? (i := 43) rfl)) rfl (lv_at hl 1 rfl) ?_
        refine lv_sipush (v := iI 4096) hx hb (okX11_unclean (88, .sipush 4096, 3) (List.mem_of_getElem? (i := 44) rfl)) (by decide +kernel) ?_
        refine sk_ior hx hb (okX11_unclean (91, .ior, 1) (List.mem_of_getElem? (i := 45) rfl)) ?_
        refine sk_nm (fun v1_92 ev1_92 => ?_)
        have hM := hM v1_92 ev1_92
        have hr_v1_92 : rI v1_92 := by rw [ev1_92]; exact (rI_of _)
        refine lv_istore_n (lv' := [(1, .int (iI v1_92)), (0, .ref (sk_ad G 0))]) hx hb (okX11_unclean (92, .istore_n 1, 1) (List.mem_of_getElem? (i := 46) rfl)) rfl hl (by decide) rfl (fun ls hl => ?_)
        refine lv_iload_n hx hb (okX11_unclean (93, .iload_n 1, 1) (List.mem_of_getElem? (i := 47) rfl)) rfl (lv_at hl 0 rfl) ?_
        exact sk_iret hx hb hr0 hlocks hK hw hr_v1_92 hM (okX11_unclean (94, .ireturn, 1) (List.mem_of_getElem? (i := 48) rfl))
  have hJ_4 : ∀ (v1 v2 : Int) (I : sk_S), rI v1 → rI v2 → L_Sky_unclean_4 Q v1 v2 I → ∀ (H : Heap) (locs : List Loc) (ls : Array Slot), sk_W G 198 sk_t I s H locs → lv_has ls 3 [(0, .ref (sk_ad G 0)), (1, .int (iI v1)), (2, .int (iI v2))] → W p l e (headSpec wsX11_unclean rmX11_unclean).room s m ([.ref (sk_ad G 0)].toArray) below meth c H locs 0 0 (MQ below (sk_Qi G 198 sk_t Q) ([.ref (sk_ad G 0)].toArray) s 0 0 (sk_A G)) (F0 m 4 ls []) := by
    intro v1 v2 I hr_v1 hr_v2 hM H locs ls hw hl
    unfold L_Sky_unclean_4 at hM
    obtain ⟨X_4, hX_4⟩ : ∃ X : Int → Int → sk_S → Prop, ∀ (v1 v2 : Int) (I : sk_S), X v1 v2 I ↔ (rI v1 → rI v2 → ∀ (H : Heap) (locs : List Loc) (ls : Array Slot), sk_W G 198 sk_t I s H locs → lv_has ls 3 [(0, .ref (sk_ad G 0)), (1, .int (iI v1)), (2, .int (iI v2))] → W p l e (headSpec wsX11_unclean rmX11_unclean).room s m ([.ref (sk_ad G 0)].toArray) below meth c H locs 0 0 (MQ below (sk_Qi G 198 sk_t Q) ([.ref (sk_ad G 0)].toArray) s 0 0 (sk_A G)) (F0 m 4 ls [])) := ⟨_, fun _ _ _ => Iff.rfl⟩
    have hJ_42 : ∀ (v1 v2 : Int) (I : sk_S), rI v1 → rI v2 → J_Sky_unclean_42 v1 v2 Q X_4 I → ∀ (H : Heap) (locs : List Loc) (ls : Array Slot), sk_W G 198 sk_t I s H locs → lv_has ls 3 [(0, .ref (sk_ad G 0)), (1, .int (iI v1)), (2, .int (iI v2))] → W p l e (headSpec wsX11_unclean rmX11_unclean).room s m ([.ref (sk_ad G 0)].toArray) below meth c H locs 0 0 (MQ below (sk_Qi G 198 sk_t Q) ([.ref (sk_ad G 0)].toArray) s 0 0 (sk_A G)) (F0 m 42 ls []) := by
      intro v1 v2 I hr_v1 hr_v2 hM H locs ls hw hl
      unfold J_Sky_unclean_42 at hM
      obtain ⟨hr1, hM⟩ := hM
      obtain ⟨v2_42, ev2_42⟩ : ∃ y : Int, y = v2 + 1 := ⟨_, rfl⟩
      have hM := hM v2_42 ev2_42
      have hr_v2_42 : rI v2_42 := by rw [ev2_42]; exact hr1
      refine lv_iinc (v := iI v2_42) (lv' := [(2, .int (iI v2_42)), (0, .ref (sk_ad G 0)), (1, .int (iI v1))]) hx hb (okX11_unclean (42, .iinc 2 1, 3) (List.mem_of_getElem? (i := 24) rfl)) hl (k := 2) rfl (by rw [ev2_42]; exact iI_add _ _) (by decide) rfl (fun ls hl => ?_)
      refine lv_goto (tgt := 4) hx hb (okX11_unclean (45, .goto (-41), 3) (List.mem_of_getElem? (i := 25) rfl)) (by decide) ?_
      exact (hX_4 v1 v2_42 I).1 hM hr_v1 hr_v2_42 H locs ls hw (lv_sub hl [1, 2, 0] rfl)
    refine (hX_4 v1 v2 I).1 (hM X_4 (fun v1 v2 I hM => (hX_4 v1 v2 I).2 (fun hr_v1 hr_v2 H locs ls hw hl => ?_))) hr_v1 hr_v2 H locs ls hw hl
    refine lv_iload_n hx hb (okX11_unclean (4, .iload_n 2, 1) (List.mem_of_getElem? (i := 4) rfl)) rfl (lv_at hl 2 rfl) ?_
    refine lv_aload_n hx hb (okX11_unclean (5, .aload_n 0, 1) (List.mem_of_getElem? (i := 5) rfl)) rfl (lv_at hl 0 rfl) ?_
    refine sk_getr (b := 54) S hK hw kdn_0 (kd_in kdn_0) (C := RX11) (T := TX11) (N := 8) rfl hI11 6 ⟨by decide, rfl, by decide, rfl⟩ rfl (k' := 6) rfl rfl (by decide +kernel) hL0 (okX11_unclean (6, .getfield 54, 3) (List.mem_of_getElem? (i := 6) rfl)) ?_
    refine sk_ci (sk_runV (a := 54) (C := RX9) (As := []) (rest := [.int (iI v2)]) S (c_Show_size l G hM) sk_blind gX11_unclean_X9_size rfl hdX9_size ⟨⟨rfl, rfl⟩, Nat.le_of_ble_eq_true rfl, Nat.le_of_ble_eq_true rfl⟩ (sk_recv hK hw kdn_54 (kd_in kdn_54) (by decide) rfl) (sk_pre hK hw) rfl hl.1 rfl (Nat.le_of_ble_eq_true rfl) (okX11_unclean (9, .invokevirtual 74, 3) (List.mem_of_getElem? (i := 7) rfl)) ⟨Nat.zero_le _, Nat.zero_le _⟩) hw (fun r_9 I_9 H locs hr_r_9 hM hw => ?_)
    refine sk_icmp_ge (tgt := 48) hx hb hr_v2 hr_r_9 (okX11_unclean (12, .if_icmp .ge 36, 3) (List.mem_of_getElem? (i := 8) rfl)) (by decide) (fun c12 => ?_) (fun c12 => ?_)
    · have hM := hM.1 c12
      exact hJ_48 v1 I_9 hr_v1 hM H locs ls hw (lv_sub hl [0, 1] rfl)
    · have hM := hM.2 c12
      refine lv_aload_n hx hb (okX11_unclean (15, .aload_n 0, 1) (List.mem_of_getElem? (i := 9) rfl)) rfl (lv_at hl 0 rfl) ?_
      refine sk_getr (b := 54) S hK hw kdn_0 (kd_in kdn_0) (C := RX11) (T := TX11) (N := 8) rfl hI11 6 ⟨by decide, rfl, by decide, rfl⟩ rfl (k' := 6) rfl rfl (by decide +kernel) hL0 (okX11_unclean (16, .getfield 54, 3) (List.mem_of_getElem? (i := 10) rfl)) ?_
      refine lv_iload_n hx hb (okX11_unclean (19, .iload_n 2, 1) (List.mem_of_getElem? (i := 11) rfl)) rfl (lv_at hl 2 rfl) ?_
      refine sk_cr (sk_runV (a := 54) (C := RX9) (As := [.int (iI v2)]) (rest := []) S (c_Show_at l G hr_v2 hM) sk_blind gX11_unclean_X9_at rfl hdX9_at ⟨⟨rfl, rfl⟩, Nat.le_of_ble_eq_true rfl, Nat.le_of_ble_eq_true rfl⟩ (sk_recv hK hw kdn_54 (kd_in kdn_54) (by decide) rfl) (sk_pre hK hw) rfl hl.1 rfl (Nat.le_of_ble_eq_true rfl) (okX11_unclean (20, .invokevirtual 232, 3) (List.mem_of_getElem? (i := 12) rfl)) ⟨Nat.zero_le _, Nat.zero_le _⟩) hw (fun r_20 I_20 H locs hk_r_20 hM hw => ?_)
      refine sk_getrN (b := (r_20 + 1)) S hK hw hk_r_20 (kd_in hk_r_20) (C := RX8) (T := TX8) (N := 5) rfl hI8 0 ⟨by decide, rfl, by decide, rfl⟩ rfl (k' := 0) rfl rfl (rf80 hk_r_20) (va_Nw.use rfl (hK.2.1 ("SkyLights", 199, "SkyLights$Scene", "way", "LSkyLights$Pass;") (by decide +kernel))) (okX11_unclean (23, .getfield 199, 3) (List.mem_of_getElem? (i := 13) rfl)) ?_
      refine lv_aload_n hx hb (okX11_unclean (26, .aload_n 0, 1) (List.mem_of_getElem? (i := 14) rfl)) rfl (lv_at hl 0 rfl) ?_
      refine sk_getr (b := 36) S hK hw kdn_0 (kd_in kdn_0) (C := RX11) (T := TX11) (N := 8) rfl hI11 2 ⟨by decide, rfl, by decide, rfl⟩ rfl (k' := 2) rfl rfl (by decide +kernel) hL1 (okX11_unclean (27, .getfield 26, 3) (List.mem_of_getElem? (i := 15) rfl)) ?_
      refine sk_ci (sk_runV (a := (r_20 + 1)) (C := RX4) (As := [.ref (sk_ad G 36)]) (rest := []) S (c_Pass_isClean l G (k8 hk_r_20).1 hM) sk_blind gX11_unclean_X4_isClean rfl hdX4_isClean ⟨⟨rfl, rfl⟩, Nat.le_of_ble_eq_true rfl, Nat.le_of_ble_eq_true rfl⟩ (sk_recv hK hw (k8 hk_r_20).1 (kd_in (k8 hk_r_20).1) (by decide) rfl) (sk_pre hK hw) rfl hl.1 rfl (Nat.le_of_ble_eq_true rfl) (okX11_unclean (30, .invokevirtual 174, 3) (List.mem_of_getElem? (i := 16) rfl)) ⟨Nat.zero_le _, Nat.zero_le _⟩) hw (fun r_30 I_30 H locs hr_r_30 hM hw => ?_)
      obtain ⟨hb_r_30, hM⟩ := hM
      refine sk_if_ne (tgt := 42) hx hb hr_r_30 (okX11_unclean (33, .ifCond .ne 9, 3) (List.mem_of_getElem? (i := 17) rfl)) (by decide) (fun c33 => ?_) (fun c33 => ?_)
      · have hM := hM.1 c33
        exact hJ_42 v1 v2 I_30 hr_v1 hr_v2 hM H locs ls hw (lv_sub hl [0, 1, 2] rfl)
      · have hM := hM.2 c33
        refine lv_iload_n hx hb (okX11_unclean (36, .iload_n 1, 1) (List.mem_of_getElem? (i := 18) rfl)) rfl (lv_at hl 1 rfl) ?_
        refine lv_iconst (v := iI 1) hx hb (okX11_unclean (37, .iconst 1, 1) (List.mem_of_getElem? (i := 19) rfl)) rfl ?_
        refine lv_iload_n hx hb (okX11_unclean (38, .iload_n 2, 1) (List.mem_of_getElem? (i := 20) rfl)) rfl (lv_at hl 2 rfl) ?_
        refine sk_ishl hx hb (okX11_unclean (39, .ishl, 1) (List.mem_of_getElem? (i := 21) rfl)) ?_
        refine sk_ior hx hb (okX11_unclean (40, .ior, 1) (List.mem_of_getElem? (i := 22) rfl)) ?_
        refine sk_nm (fun v1_41 ev1_41 => ?_)
        have hM := hM v1_41 ev1_41
        have hr_v1_41 : rI v1_41 := by rw [ev1_41]; exact (rI_of _)
        refine lv_istore_n (lv' := [(1, .int (iI v1_41)), (0, .ref (sk_ad G 0)), (2, .int (iI v2))]) hx hb (okX11_unclean (41, .istore_n 1, 1) (List.mem_of_getElem? (i := 23) rfl)) rfl hl (by decide) rfl (fun ls hl => ?_)
        exact hJ_42 v1_41 v2 I_30 hr_v1_41 hr_v2 hM H locs ls hw (lv_sub hl [1, 0, 2] rfl)
  unfold M_Sky_unclean at hM
  intro H locs hw
  refine lv_iconst (v := iI 0) hx hb (okX11_unclean (0, .iconst 0, 1) (List.mem_of_getElem? (i := 0) rfl)) rfl ?_
  refine lv_istore_n (lv' := [(1, .int (iI 0)), (0, .ref (sk_ad G 0))]) hx hb (okX11_unclean (1, .istore_n 1, 1) (List.mem_of_getElem? (i := 1) rfl)) rfl hl (by decide) rfl (fun ls hl => ?_)
  refine lv_iconst (v := iI 0) hx hb (okX11_unclean (2, .iconst 0, 1) (List.mem_of_getElem? (i := 2) rfl)) rfl ?_
  refine lv_istore_n (lv' := [(2, .int (iI 0)), (1, .int (iI 0)), (0, .ref (sk_ad G 0))]) hx hb (okX11_unclean (3, .istore_n 2, 1) (List.mem_of_getElem? (i := 3) rfl)) rfl hl (by decide) rfl (fun ls hl => ?_)
  exact hJ_4 0 0 I (by decide) (by decide) hM H locs ls hw (lv_sub hl [2, 1, 0] rfl)
def rmX11_who : Room := { frames := 0, cells := 0, slots := 0, locals := 0 }
set_option maxHeartbeats 4000000 in
set_option maxRecDepth 100000 in
theorem c_Sky_who (l : Launch) (G : sk_G) {p1 : Int} (hr_p1 : rI p1) {Q : Int → sk_S → Prop} {I : sk_S} (hM : M_Sky_who p1 Q I) : Met l yX11_who wsX11_who rmX11_who (va_Pc [.ref (sk_ad G 0), .int (iI p1)] (sk_U G 198 sk_t I)) (sk_Qi G 198 sk_t Q) 0 0 (sk_A G) := by
  refine Met.ofW (cc := cX11_who) (maxL := 2) (ret := (some .int)) (by decide) rfl ?_
  intro p e s m args below meth c s₁ B hml hv
  obtain ⟨rfl, hU, hK⟩ := hv
  have hx := B.exec
  have hb := B.bytes
  have hr0 := B.returns
  have hts := atoms_spec (ws := wsX11_who) B.pre
  have hown : s.vm.findClass RX11 = some m.cls := findClass_of_methodNamed B.named
  have hlocks := B.notSynchronized
  have S : CallFix p m c cX11_who 2 s ([.ref (sk_ad G 0), .int (iI p1)].toArray) wsX11_who RX11 := ⟨hx, hb, hml, hown, hts⟩
  have hL0 := hts (.fieldLink RX11 61 "SkyLights" "foreign" "LSkyLights$Foreign;") (by decide +kernel)
  have hI1 : ∀ w ∈ u_ws RX1 TX1 7, w ∈ wsX11_who := by decide +kernel
  have hI11 : ∀ w ∈ u_ws RX11 TX11 8, w ∈ wsX11_who := by decide +kernel
  have hw : sk_W G 198 sk_t I s s.heap [] := ⟨hU, va_S.rf⟩
  have hl := lv_entry ([.ref (sk_ad G 0), .int (iI p1)]) (n := 2) (Nat.le_of_ble_eq_true rfl)
  rw [lg_entry_eq]
  generalize (lg_sl ([.ref (sk_ad G 0), .int (iI p1)]) ++ List.replicate (2 - (lg_sl ([.ref (sk_ad G 0), .int (iI p1)])).length) Slot.unset).toArray = ls at hl ⊢
  have hl : lv_has ls 2 [(0, .ref (sk_ad G 0)), (1, .int (iI p1))] := hl
  suffices hgo : ∀ (H : Heap) (locs : List Loc), sk_W G 198 sk_t I s H locs → W p l e (headSpec wsX11_who rmX11_who).room s m ([.ref (sk_ad G 0), .int (iI p1)].toArray) below meth c H locs 0 0 (MQ below (sk_Qi G 198 sk_t Q) ([.ref (sk_ad G 0), .int (iI p1)].toArray) s 0 0 (sk_A G)) (F0 m 0 ls []) from hgo _ _ hw
  unfold M_Sky_who at hM
  intro H locs hw
  refine lv_iload_n hx hb (okX11_who (0, .iload_n 1, 1) (List.mem_of_getElem? (i := 0) rfl)) rfl (lv_at hl 1 rfl) ?_
  refine sk_if_ne (tgt := 12) hx hb hr_p1 (okX11_who (1, .ifCond .ne 11, 3) (List.mem_of_getElem? (i := 1) rfl)) (by decide) (fun c1 => ?_) (fun c1 => ?_)
  · have hM := hM.1 c1
    refine lv_iload_n hx hb (okX11_who (12, .iload_n 1, 1) (List.mem_of_getElem? (i := 6) rfl)) rfl (lv_at hl 1 rfl) ?_
    refine lv_iconst (v := iI 1) hx hb (okX11_who (13, .iconst 1, 1) (List.mem_of_getElem? (i := 7) rfl)) rfl ?_
    refine sk_icmp_ne (tgt := 27) hx hb hr_p1 (by decide) (okX11_who (14, .if_icmp .ne 13, 3) (List.mem_of_getElem? (i := 8) rfl)) (by decide) (fun c14 => ?_) (fun c14 => ?_)
    · have hM := hM.1 c14
      refine lv_iconst (v := iI (-1)) hx hb (okX11_who (27, .iconst (-1), 1) (List.mem_of_getElem? (i := 13) rfl)) rfl ?_
      exact sk_iret hx hb hr0 hlocks hK hw (by decide) hM (okX11_who (28, .ireturn, 1) (List.mem_of_getElem? (i := 14) rfl))
    · have hM := hM.2 c14
      refine lv_aload_n hx hb (okX11_who (17, .aload_n 0, 1) (List.mem_of_getElem? (i := 9) rfl)) rfl (lv_at hl 0 rfl) ?_
      refine sk_getr (b := 149) S hK hw kdn_0 (kd_in kdn_0) (C := RX11) (T := TX11) (N := 8) rfl hI11 7 ⟨by decide, rfl, by decide, rfl⟩ rfl (k' := 7) rfl rfl (by decide +kernel) hL0 (okX11_who (18, .getfield 61, 3) (List.mem_of_getElem? (i := 10) rfl)) ?_
      have hr1 := hw.1.2.2 149 6
      refine sk_getiN S hK hw kdn_149 (kd_in kdn_149) (C := RX1) (T := TX1) (N := 7) rfl hI1 6 ⟨by decide, rfl, by decide, rfl⟩ rfl (k' := 6) rfl (va_Nw.use rfl (hK.2.1 ("SkyLights", 256, "SkyLights$Foreign", "other", "I") (by decide +kernel))) (okX11_who (21, .getfield 256, 3) (List.mem_of_getElem? (i := 11) rfl)) ?_
      refine lv_goto (tgt := 28) hx hb (okX11_who (24, .goto 4, 3) (List.mem_of_getElem? (i := 12) rfl)) (by decide) ?_
      exact sk_iret hx hb hr0 hlocks hK hw hr1 hM (okX11_who (28, .ireturn, 1) (List.mem_of_getElem? (i := 14) rfl))
  · have hM := hM.2 c1
    refine lv_aload_n hx hb (okX11_who (4, .aload_n 0, 1) (List.mem_of_getElem? (i := 2) rfl)) rfl (lv_at hl 0 rfl) ?_
    refine sk_getr (b := 149) S hK hw kdn_0 (kd_in kdn_0) (C := RX11) (T := TX11) (N := 8) rfl hI11 7 ⟨by decide, rfl, by decide, rfl⟩ rfl (k' := 7) rfl rfl (by decide +kernel) hL0 (okX11_who (5, .getfield 61, 3) (List.mem_of_getElem? (i := 3) rfl)) ?_
    have hr2 := hw.1.2.2 149 5
    refine sk_getiN S hK hw kdn_149 (kd_in kdn_149) (C := RX1) (T := TX1) (N := 7) rfl hI1 5 ⟨by decide, rfl, by decide, rfl⟩ rfl (k' := 5) rfl (va_Nw.use rfl (hK.2.1 ("SkyLights", 253, "SkyLights$Foreign", "one", "I") (by decide +kernel))) (okX11_who (8, .getfield 253, 3) (List.mem_of_getElem? (i := 4) rfl)) ?_
    exact sk_iret hx hb hr0 hlocks hK hw hr2 hM (okX11_who (11, .ireturn, 1) (List.mem_of_getElem? (i := 5) rfl))
def rmX11_wipe : Room := { frames := 2, cells := 0, slots := 0, locals := 106 }
set_option maxHeartbeats 4000000 in
set_option maxRecDepth 100000 in
theorem c_Sky_wipe (l : Launch) (G : sk_G) {Q : Int → sk_S → Prop} {I : sk_S} (hM : M_Sky_wipe Q I) : Met l yX11_wipe wsX11_wipe rmX11_wipe (va_Pc [.ref (sk_ad G 0)] (sk_U G 198 sk_t I)) (sk_Qi G 198 sk_t Q) 0 0 (sk_A G) := by
  refine Met.ofW (cc := cX11_wipe) (maxL := 2) (ret := (some .int)) (by decide) rfl ?_
  intro p e s m args below meth c s₁ B hml hv
  obtain ⟨rfl, hU, hK⟩ := hv
  have hx := B.exec
  have hb := B.bytes
  have hr0 := B.returns
  have hts := atoms_spec (ws := wsX11_wipe) B.pre
  have hown : s.vm.findClass RX11 = some m.cls := findClass_of_methodNamed B.named
  have hlocks := B.notSynchronized
  have S : CallFix p m c cX11_wipe 2 s ([.ref (sk_ad G 0)].toArray) wsX11_wipe RX11 := ⟨hx, hb, hml, hown, hts⟩
  have hL0 := hts (.fieldLink RX11 61 "SkyLights" "foreign" "LSkyLights$Foreign;") (by decide +kernel)
  have hI11 : ∀ w ∈ u_ws RX11 TX11 8, w ∈ wsX11_wipe := by decide +kernel
  have hw : sk_W G 198 sk_t I s s.heap [] := ⟨hU, va_S.rf⟩
  have hl := lv_entry ([.ref (sk_ad G 0)]) (n := 2) (Nat.le_of_ble_eq_true rfl)
  rw [lg_entry_eq]
  generalize (lg_sl ([.ref (sk_ad G 0)]) ++ List.replicate (2 - (lg_sl ([.ref (sk_ad G 0)])).length) Slot.unset).toArray = ls at hl ⊢
  have hl : lv_has ls 2 [(0, .ref (sk_ad G 0))] := hl
  suffices hgo : ∀ (H : Heap) (locs : List Loc), sk_W G 198 sk_t I s H locs → W p l e (headSpec wsX11_wipe rmX11_wipe).room s m ([.ref (sk_ad G 0)].toArray) below meth c H locs 0 0 (MQ below (sk_Qi G 198 sk_t Q) ([.ref (sk_ad G 0)].toArray) s 0 0 (sk_A G)) (F0 m 0 ls []) from hgo _ _ hw
  unfold M_Sky_wipe at hM
  intro H locs hw
  refine lv_aload_n hx hb (okX11_wipe (0, .aload_n 0, 1) (List.mem_of_getElem? (i := 0) rfl)) rfl (lv_at hl 0 rfl) ?_
  refine sk_getr (b := 149) S hK hw kdn_0 (kd_in kdn_0) (C := RX11) (T := TX11) (N := 8) rfl hI11 7 ⟨by decide, rfl, by decide, rfl⟩ rfl (k' := 7) rfl rfl (by decide +kernel) hL0 (okX11_wipe (1, .getfield 61, 3) (List.mem_of_getElem? (i := 1) rfl)) ?_
  refine sk_ci (sk_runV (a := 149) (C := RX1) (As := []) (rest := []) S (c_Foreign_size l G hM) sk_blind gX11_wipe_X1_size rfl hdX1_size ⟨⟨rfl, rfl⟩, Nat.le_of_ble_eq_true rfl, Nat.le_of_ble_eq_true rfl⟩ (sk_recv hK hw kdn_149 (kd_in kdn_149) (by decide) rfl) (sk_pre hK hw) rfl hl.1 rfl (Nat.le_of_ble_eq_true rfl) (okX11_wipe (4, .invokevirtual 245, 3) (List.mem_of_getElem? (i := 2) rfl)) ⟨Nat.zero_le _, Nat.zero_le _⟩) hw (fun r_4 I_4 H locs hr_r_4 hM hw => ?_)
  refine lv_istore_n (lv' := [(1, .int (iI r_4)), (0, .ref (sk_ad G 0))]) hx hb (okX11_wipe (7, .istore_n 1, 1) (List.mem_of_getElem? (i := 3) rfl)) rfl hl (by decide) rfl (fun ls hl => ?_)
  refine lv_aload_n hx hb (okX11_wipe (8, .aload_n 0, 1) (List.mem_of_getElem? (i := 4) rfl)) rfl (lv_at hl 1 rfl) ?_
  refine sk_getr (b := 149) S hK hw kdn_0 (kd_in kdn_0) (C := RX11) (T := TX11) (N := 8) rfl hI11 7 ⟨by decide, rfl, by decide, rfl⟩ rfl (k' := 7) rfl rfl (by decide +kernel) hL0 (okX11_wipe (9, .getfield 61, 3) (List.mem_of_getElem? (i := 5) rfl)) ?_
  refine sk_cv (sk_runV (a := 149) (C := RX1) (As := []) (rest := []) S (c_Foreign_empty l G hM) sk_blind gX11_wipe_X1_empty rfl hdX1_empty ⟨⟨rfl, rfl⟩, Nat.le_of_ble_eq_true rfl, Nat.le_of_ble_eq_true rfl⟩ (sk_recv hK hw kdn_149 (kd_in kdn_149) (by decide) rfl) (sk_pre hK hw) rfl hl.1 rfl (Nat.le_of_ble_eq_true rfl) (okX11_wipe (12, .invokevirtual 259, 3) (List.mem_of_getElem? (i := 6) rfl)) ⟨Nat.zero_le _, Nat.zero_le _⟩) hw (fun I_12 H locs hM hw => ?_)
  refine lv_iload_n hx hb (okX11_wipe (15, .iload_n 1, 1) (List.mem_of_getElem? (i := 7) rfl)) rfl (lv_at hl 0 rfl) ?_
  exact sk_iret hx hb hr0 hlocks hK hw hr_r_4 hM (okX11_wipe (16, .ireturn, 1) (List.mem_of_getElem? (i := 8) rfl))
def rmX11_zone : Room := { frames := 2, cells := 0, slots := 0, locals := 106 }
set_option maxHeartbeats 4000000 in
set_option maxRecDepth 100000 in
theorem c_Sky_zone (l : Launch) (G : sk_G) {p1 p2 p3 : Int} (hr_p1 : rI p1) (hr_p2 : rI p2) (hr_p3 : rI p3) {Q : Int → sk_S → Prop} {I : sk_S} (hM : M_Sky_zone p1 p2 p3 Q I) : Met l yX11_zone wsX11_zone rmX11_zone (va_Pc [.ref (sk_ad G 0), .int (iI p1), .int (iI p2), .int (iI p3)] (sk_U G 198 sk_t I)) (sk_Qi G 198 sk_t Q) 0 0 (sk_A G) := by
  refine Met.ofW (cc := cX11_zone) (maxL := 4) (ret := (some .int)) (by decide) rfl ?_
  intro p e s m args below meth c s₁ B hml hv
  obtain ⟨rfl, hU, hK⟩ := hv
  have hx := B.exec
  have hb := B.bytes
  have hr0 := B.returns
  have hts := atoms_spec (ws := wsX11_zone) B.pre
  have hown : s.vm.findClass RX11 = some m.cls := findClass_of_methodNamed B.named
  have hlocks := B.notSynchronized
  have S : CallFix p m c cX11_zone 4 s ([.ref (sk_ad G 0), .int (iI p1), .int (iI p2), .int (iI p3)].toArray) wsX11_zone RX11 := ⟨hx, hb, hml, hown, hts⟩
  have hL0 := hts (.fieldLink RX11 26 "SkyLights" "air" "LSkyLights$Air;") (by decide +kernel)
  have hI0 : ∀ w ∈ u_ws RX0 TX0 4, w ∈ wsX11_zone := by decide +kernel
  have hI11 : ∀ w ∈ u_ws RX11 TX11 8, w ∈ wsX11_zone := by decide +kernel
  have hw : sk_W G 198 sk_t I s s.heap [] := ⟨hU, va_S.rf⟩
  have hl := lv_entry ([.ref (sk_ad G 0), .int (iI p1), .int (iI p2), .int (iI p3)]) (n := 4) (Nat.le_of_ble_eq_true rfl)
  rw [lg_entry_eq]
  generalize (lg_sl ([.ref (sk_ad G 0), .int (iI p1), .int (iI p2), .int (iI p3)]) ++ List.replicate (4 - (lg_sl ([.ref (sk_ad G 0), .int (iI p1), .int (iI p2), .int (iI p3)])).length) Slot.unset).toArray = ls at hl ⊢
  have hl : lv_has ls 4 [(0, .ref (sk_ad G 0)), (1, .int (iI p1)), (2, .int (iI p2)), (3, .int (iI p3))] := hl
  suffices hgo : ∀ (H : Heap) (locs : List Loc), sk_W G 198 sk_t I s H locs → W p l e (headSpec wsX11_zone rmX11_zone).room s m ([.ref (sk_ad G 0), .int (iI p1), .int (iI p2), .int (iI p3)].toArray) below meth c H locs 0 0 (MQ below (sk_Qi G 198 sk_t Q) ([.ref (sk_ad G 0), .int (iI p1), .int (iI p2), .int (iI p3)].toArray) s 0 0 (sk_A G)) (F0 m 0 ls []) from hgo _ _ hw
  unfold M_Sky_zone at hM
  intro H locs hw
  refine lv_iload_n hx hb (okX11_zone (0, .iload_n 1, 1) (List.mem_of_getElem? (i := 0) rfl)) rfl (lv_at hl 1 rfl) ?_
  refine sk_ci (sk_runS (As := [.int (iI p1)]) (rest := []) S (c_Sky_isAcross l G hr_p1 hM) sk_blind gX11_zone_X11_isAcross rfl hdX11_isAcross ⟨⟨rfl, rfl⟩, Nat.le_of_ble_eq_true rfl, Nat.le_of_ble_eq_true rfl⟩ (sk_pre hK hw) rfl hl.1 rfl (Nat.le_of_ble_eq_true rfl) (okX11_zone (1, .invokestatic 65, 3) (List.mem_of_getElem? (i := 1) rfl)) ⟨Nat.zero_le _, Nat.zero_le _⟩) hw (fun r_1 I_1 H locs hr_r_1 hM hw => ?_)
  obtain ⟨hb_r_1, hM⟩ := hM
  refine sk_if_eq (tgt := 25) hx hb hr_r_1 (okX11_zone (4, .ifCond .eq 21, 3) (List.mem_of_getElem? (i := 2) rfl)) (by decide) (fun c4 => ?_) (fun c4 => ?_)
  · have hM := hM.1 c4
    refine lv_bipush (v := iI (-2)) hx hb (okX11_zone (25, .bipush (-2), 2) (List.mem_of_getElem? (i := 11) rfl)) (by decide +kernel) ?_
    exact sk_iret hx hb hr0 hlocks hK hw (by decide) hM (okX11_zone (27, .ireturn, 1) (List.mem_of_getElem? (i := 12) rfl))
  · have hM := hM.2 c4
    refine lv_iload_n hx hb (okX11_zone (7, .iload_n 2, 1) (List.mem_of_getElem? (i := 3) rfl)) rfl (lv_at hl 2 rfl) ?_
    refine sk_ci (sk_runS (As := [.int (iI p2)]) (rest := []) S (c_Sky_isAcross l G hr_p2 hM) sk_blind gX11_zone_X11_isAcross rfl hdX11_isAcross ⟨⟨rfl, rfl⟩, Nat.le_of_ble_eq_true rfl, Nat.le_of_ble_eq_true rfl⟩ (sk_pre hK hw) rfl hl.1 rfl (Nat.le_of_ble_eq_true rfl) (okX11_zone (8, .invokestatic 65, 3) (List.mem_of_getElem? (i := 4) rfl)) ⟨Nat.zero_le _, Nat.zero_le _⟩) hw (fun r_8 I_8 H locs hr_r_8 hM hw => ?_)
    obtain ⟨hb_r_8, hM⟩ := hM
    refine sk_if_eq (tgt := 25) hx hb hr_r_8 (okX11_zone (11, .ifCond .eq 14, 3) (List.mem_of_getElem? (i := 5) rfl)) (by decide) (fun c11 => ?_) (fun c11 => ?_)
    · have hM := hM.1 c11
      refine lv_bipush (v := iI (-2)) hx hb (okX11_zone (25, .bipush (-2), 2) (List.mem_of_getElem? (i := 11) rfl)) (by decide +kernel) ?_
      exact sk_iret hx hb hr0 hlocks hK hw (by decide) hM (okX11_zone (27, .ireturn, 1) (List.mem_of_getElem? (i := 12) rfl))
    · have hM := hM.2 c11
      refine lv_iload_n hx hb (okX11_zone (14, .iload_n 3, 1) (List.mem_of_getElem? (i := 6) rfl)) rfl (lv_at hl 3 rfl) ?_
      refine lv_iconst (v := iI 0) hx hb (okX11_zone (15, .iconst 0, 1) (List.mem_of_getElem? (i := 7) rfl)) rfl ?_
      refine lv_sipush (v := iI 200) hx hb (okX11_zone (16, .sipush 200, 3) (List.mem_of_getElem? (i := 8) rfl)) (by decide +kernel) ?_
      refine sk_ci (sk_runS (As := [.int (iI p3), .int (iI 0), .int (iI 200)]) (rest := []) S (c_Sky_isWithin l G hr_p3 (by decide) (by decide) hM) sk_blind gX11_zone_X11_isWithin rfl hdX11_isWithin ⟨⟨rfl, rfl⟩, Nat.le_of_ble_eq_true rfl, Nat.le_of_ble_eq_true rfl⟩ (sk_pre hK hw) rfl hl.1 rfl (Nat.le_of_ble_eq_true rfl) (okX11_zone (19, .invokestatic 70, 3) (List.mem_of_getElem? (i := 9) rfl)) ⟨Nat.zero_le _, Nat.zero_le _⟩) hw (fun r_19 I_19 H locs hr_r_19 hM hw => ?_)
      obtain ⟨hb_r_19, hM⟩ := hM
      refine sk_if_ne (tgt := 28) hx hb hr_r_19 (okX11_zone (22, .ifCond .ne 6, 3) (List.mem_of_getElem? (i := 10) rfl)) (by decide) (fun c22 => ?_) (fun c22 => ?_)
      · have hM := hM.1 c22
        refine lv_aload_n hx hb (okX11_zone (28, .aload_n 0, 1) (List.mem_of_getElem? (i := 13) rfl)) rfl (lv_at hl 0 rfl) ?_
        refine sk_getr (b := 36) S hK hw kdn_0 (kd_in kdn_0) (C := RX11) (T := TX11) (N := 8) rfl hI11 2 ⟨by decide, rfl, by decide, rfl⟩ rfl (k' := 2) rfl rfl (by decide +kernel) hL0 (okX11_zone (29, .getfield 26, 3) (List.mem_of_getElem? (i := 14) rfl)) ?_
        refine lv_iload_n hx hb (okX11_zone (32, .iload_n 1, 1) (List.mem_of_getElem? (i := 15) rfl)) rfl (lv_at hl 1 rfl) ?_
        refine sk_putN S hK hw kdn_36 (kd_in kdn_36) (C := RX0) (T := TX0) (N := 4) rfl hI0 tyX0 tyX0_ok nmX0 1 ⟨by decide, rfl, by decide, rfl⟩ rfl rfl (k' := 1) rfl hr_p1 ⟨rfl, rfl⟩ (va_Nw.use rfl (hK.2.1 ("SkyLights", 138, "SkyLights$Air", "zoneX", "I") (by decide +kernel))) (okX11_zone (33, .putfield 138, 3) (List.mem_of_getElem? (i := 16) rfl)) (fun H locs hw => ?_)
        refine lv_aload_n hx hb (okX11_zone (36, .aload_n 0, 1) (List.mem_of_getElem? (i := 17) rfl)) rfl (lv_at hl 0 rfl) ?_
        refine sk_getr (b := 36) S hK hw kdn_0 (kd_in kdn_0) (C := RX11) (T := TX11) (N := 8) rfl hI11 2 ⟨by decide, rfl, by decide, rfl⟩ rfl (k' := 2) rfl rfl (by decide +kernel) hL0 (okX11_zone (37, .getfield 26, 3) (List.mem_of_getElem? (i := 18) rfl)) ?_
        refine lv_iload_n hx hb (okX11_zone (40, .iload_n 2, 1) (List.mem_of_getElem? (i := 19) rfl)) rfl (lv_at hl 2 rfl) ?_
        refine sk_putN S hK hw kdn_36 (kd_in kdn_36) (C := RX0) (T := TX0) (N := 4) rfl hI0 tyX0 tyX0_ok nmX0 2 ⟨by decide, rfl, by decide, rfl⟩ rfl rfl (k' := 2) rfl hr_p2 ⟨rfl, rfl⟩ (va_Nw.use rfl (hK.2.1 ("SkyLights", 141, "SkyLights$Air", "zoneY", "I") (by decide +kernel))) (okX11_zone (41, .putfield 141, 3) (List.mem_of_getElem? (i := 20) rfl)) (fun H locs hw => ?_)
        refine lv_aload_n hx hb (okX11_zone (44, .aload_n 0, 1) (List.mem_of_getElem? (i := 21) rfl)) rfl (lv_at hl 0 rfl) ?_
        refine sk_getr (b := 36) S hK hw kdn_0 (kd_in kdn_0) (C := RX11) (T := TX11) (N := 8) rfl hI11 2 ⟨by decide, rfl, by decide, rfl⟩ rfl (k' := 2) rfl rfl (by decide +kernel) hL0 (okX11_zone (45, .getfield 26, 3) (List.mem_of_getElem? (i := 22) rfl)) ?_
        refine lv_iload_n hx hb (okX11_zone (48, .iload_n 3, 1) (List.mem_of_getElem? (i := 23) rfl)) rfl (lv_at hl 3 rfl) ?_
        refine sk_putN S hK hw kdn_36 (kd_in kdn_36) (C := RX0) (T := TX0) (N := 4) rfl hI0 tyX0 tyX0_ok nmX0 3 ⟨by decide, rfl, by decide, rfl⟩ rfl rfl (k' := 3) rfl hr_p3 ⟨rfl, rfl⟩ (va_Nw.use rfl (hK.2.1 ("SkyLights", 144, "SkyLights$Air", "radius", "I") (by decide +kernel))) (okX11_zone (49, .putfield 144, 3) (List.mem_of_getElem? (i := 24) rfl)) (fun H locs hw => ?_)
        refine lv_iconst (v := iI 0) hx hb (okX11_zone (52, .iconst 0, 1) (List.mem_of_getElem? (i := 25) rfl)) rfl ?_
        exact sk_iret hx hb hr0 hlocks hK hw (by decide) hM (okX11_zone (53, .ireturn, 1) (List.mem_of_getElem? (i := 26) rfl))
      · have hM := hM.2 c22
        refine lv_bipush (v := iI (-2)) hx hb (okX11_zone (25, .bipush (-2), 2) (List.mem_of_getElem? (i := 11) rfl)) (by decide +kernel) ?_
        exact sk_iret hx hb hr0 hlocks hK hw (by decide) hM (okX11_zone (27, .ireturn, 1) (List.mem_of_getElem? (i := 12) rfl))
def rmX12_square : Room := { frames := 0, cells := 0, slots := 0, locals := 0 }
set_option maxHeartbeats 4000000 in
set_option maxRecDepth 100000 in
theorem c_Mo_square (l : Launch) (G : sk_G) {p0 : Int} (hr_p0 : rI p0) {Q : Int → sk_S → Prop} {I : sk_S} (hM : M_Mo_square p0 Q I) : Met l yX12_square wsX12_square rmX12_square (va_Pc [.int (iI p0)] (sk_U G 198 sk_t I)) (sk_Qi G 198 sk_t Q) 0 0 (sk_A G) := by
  refine Met.ofW (cc := cX12_square) (maxL := 1) (ret := (some .int)) (by decide) rfl ?_
  intro p e s m args below meth c s₁ B hml hv
  obtain ⟨rfl, hU, hK⟩ := hv
  have hx := B.exec
  have hb := B.bytes
  have hr0 := B.returns
  have hts := atoms_spec (ws := wsX12_square) B.pre
  have hown : s.vm.findClass RX12 = some m.cls := findClass_of_methodNamed B.named
  have hlocks := B.notSynchronized
  have S : CallFix p m c cX12_square 1 s ([.int (iI p0)].toArray) wsX12_square RX12 := ⟨hx, hb, hml, hown, hts⟩
  have hw : sk_W G 198 sk_t I s s.heap [] := ⟨hU, va_S.rf⟩
  have hl := lv_entry ([.int (iI p0)]) (n := 1) (Nat.le_of_ble_eq_true rfl)
  rw [lg_entry_eq]
  generalize (lg_sl ([.int (iI p0)]) ++ List.replicate (1 - (lg_sl ([.int (iI p0)])).length) Slot.unset).toArray = ls at hl ⊢
  have hl : lv_has ls 1 [(0, .int (iI p0))] := hl
  suffices hgo : ∀ (H : Heap) (locs : List Loc), sk_W G 198 sk_t I s H locs → W p l e (headSpec wsX12_square rmX12_square).room s m ([.int (iI p0)].toArray) below meth c H locs 0 0 (MQ below (sk_Qi G 198 sk_t Q) ([.int (iI p0)].toArray) s 0 0 (sk_A G)) (F0 m 0 ls []) from hgo _ _ hw
  unfold M_Mo_square at hM
  intro H locs hw
  refine lv_iload_n hx hb (okX12_square (0, .iload_n 0, 1) (List.mem_of_getElem? (i := 0) rfl)) rfl (lv_at hl 0 rfl) ?_
  refine lv_iload_n hx hb (okX12_square (1, .iload_n 0, 1) (List.mem_of_getElem? (i := 1) rfl)) rfl (lv_at hl 0 rfl) ?_
  refine sk_imul hx hb (okX12_square (2, .imul, 1) (List.mem_of_getElem? (i := 2) rfl)) ?_
  obtain ⟨hr1, hM⟩ := hM
  exact sk_iret hx hb hr0 hlocks hK hw hr1 hM (okX12_square (3, .ireturn, 1) (List.mem_of_getElem? (i := 3) rfl))
def rmX12_apart : Room := { frames := 1, cells := 0, slots := 0, locals := 52 }
set_option maxHeartbeats 4000000 in
set_option maxRecDepth 100000 in
theorem c_Mo_apart (l : Launch) (G : sk_G) {p1 p2 : Int} (hr_p1 : rI p1) (hr_p2 : rI p2) {Q : Int → sk_S → Prop} {I : sk_S} (hM : M_Mo_apart p1 p2 Q I) : Met l yX12_apart wsX12_apart rmX12_apart (va_Pc [.ref (sk_ad G 158), .int (iI p1), .int (iI p2)] (sk_U G 198 sk_t I)) (sk_Qi G 198 sk_t Q) 0 0 (sk_A G) := by
  refine Met.ofW (cc := cX12_apart) (maxL := 3) (ret := (some .int)) (by decide) rfl ?_
  intro p e s m args below meth c s₁ B hml hv
  obtain ⟨rfl, hU, hK⟩ := hv
  have hx := B.exec
  have hb := B.bytes
  have hr0 := B.returns
  have hts := atoms_spec (ws := wsX12_apart) B.pre
  have hown : s.vm.findClass RX12 = some m.cls := findClass_of_methodNamed B.named
  have hlocks := B.notSynchronized
  have S : CallFix p m c cX12_apart 3 s ([.ref (sk_ad G 158), .int (iI p1), .int (iI p2)].toArray) wsX12_apart RX12 := ⟨hx, hb, hml, hown, hts⟩
  have hL0 := hts (.fieldLink RX12 22 "SkyLightsModel" "pointX" "[I") (by decide +kernel)
  have hL1 := hts (.fieldLink RX12 25 "SkyLightsModel" "pointY" "[I") (by decide +kernel)
  have hL2 := hts (.fieldLink RX12 28 "SkyLightsModel" "pointZ" "[I") (by decide +kernel)
  have hI12 : ∀ w ∈ u_ws RX12 TX12 53, w ∈ wsX12_apart := by decide +kernel
  have hw : sk_W G 198 sk_t I s s.heap [] := ⟨hU, va_S.rf⟩
  have hl := lv_entry ([.ref (sk_ad G 158), .int (iI p1), .int (iI p2)]) (n := 3) (Nat.le_of_ble_eq_true rfl)
  rw [lg_entry_eq]
  generalize (lg_sl ([.ref (sk_ad G 158), .int (iI p1), .int (iI p2)]) ++ List.replicate (3 - (lg_sl ([.ref (sk_ad G 158), .int (iI p1), .int (iI p2)])).length) Slot.unset).toArray = ls at hl ⊢
  have hl : lv_has ls 3 [(0, .ref (sk_ad G 158)), (1, .int (iI p1)), (2, .int (iI p2))] := hl
  suffices hgo : ∀ (H : Heap) (locs : List Loc), sk_W G 198 sk_t I s H locs → W p l e (headSpec wsX12_apart rmX12_apart).room s m ([.ref (sk_ad G 158), .int (iI p1), .int (iI p2)].toArray) below meth c H locs 0 0 (MQ below (sk_Qi G 198 sk_t Q) ([.ref (sk_ad G 158), .int (iI p1), .int (iI p2)].toArray) s 0 0 (sk_A G)) (F0 m 0 ls []) from hgo _ _ hw
  unfold M_Mo_apart at hM
  intro H locs hw
  refine lv_aload_n hx hb (okX12_apart (0, .aload_n 0, 1) (List.mem_of_getElem? (i := 0) rfl)) rfl (lv_at hl 0 rfl) ?_
  refine sk_getr (b := 163) S hK hw kdn_158 (kd_in kdn_158) (C := RX12) (T := TX12) (N := 53) rfl hI12 4 ⟨by decide, rfl, by decide, rfl⟩ rfl (k' := 4) rfl rfl (by decide +kernel) hL0 (okX12_apart (1, .getfield 22, 3) (List.mem_of_getElem? (i := 1) rfl)) ?_
  refine lv_iload_n hx hb (okX12_apart (4, .iload_n 1, 1) (List.mem_of_getElem? (i := 2) rfl)) rfl (lv_at hl 1 rfl) ?_
  obtain ⟨hi1, hM⟩ := hM
  have hr2 := hw.1.2.2 163 p1
  refine sk_ild S hK hw kdn_163 (kd_in kdn_163) (by rw [lnn_163]; exact hi1) (okX12_apart (5, .iaload, 1) (List.mem_of_getElem? (i := 3) rfl)) ?_
  refine lv_aload_n hx hb (okX12_apart (6, .aload_n 0, 1) (List.mem_of_getElem? (i := 4) rfl)) rfl (lv_at hl 0 rfl) ?_
  refine sk_getr (b := 163) S hK hw kdn_158 (kd_in kdn_158) (C := RX12) (T := TX12) (N := 53) rfl hI12 4 ⟨by decide, rfl, by decide, rfl⟩ rfl (k' := 4) rfl rfl (by decide +kernel) hL0 (okX12_apart (7, .getfield 22, 3) (List.mem_of_getElem? (i := 5) rfl)) ?_
  refine lv_iload_n hx hb (okX12_apart (10, .iload_n 2, 1) (List.mem_of_getElem? (i := 6) rfl)) rfl (lv_at hl 2 rfl) ?_
  obtain ⟨hi3, hM⟩ := hM
  have hr4 := hw.1.2.2 163 p2
  refine sk_ild S hK hw kdn_163 (kd_in kdn_163) (by rw [lnn_163]; exact hi3) (okX12_apart (11, .iaload, 1) (List.mem_of_getElem? (i := 7) rfl)) ?_
  refine sk_isub hx hb (okX12_apart (12, .isub, 1) (List.mem_of_getElem? (i := 8) rfl)) ?_
  obtain ⟨hr5, hM⟩ := hM
  refine sk_ci (sk_runS (As := [.int (iI ((I 163 p1) - (I 163 p2)))]) (rest := []) S (c_Mo_square l G hr5 hM) sk_blind gX12_apart_X12_square rfl hdX12_square ⟨⟨rfl, rfl⟩, Nat.le_of_ble_eq_true rfl, Nat.le_of_ble_eq_true rfl⟩ (sk_pre hK hw) rfl hl.1 rfl (Nat.le_of_ble_eq_true rfl) (okX12_apart (13, .invokestatic 192, 3) (List.mem_of_getElem? (i := 9) rfl)) ⟨Nat.zero_le _, Nat.zero_le _⟩) hw (fun r_13 I_13 H locs hr_r_13 hM hw => ?_)
  refine lv_aload_n hx hb (okX12_apart (16, .aload_n 0, 1) (List.mem_of_getElem? (i := 10) rfl)) rfl (lv_at hl 0 rfl) ?_
  refine sk_getr (b := 164) S hK hw kdn_158 (kd_in kdn_158) (C := RX12) (T := TX12) (N := 53) rfl hI12 5 ⟨by decide, rfl, by decide, rfl⟩ rfl (k' := 5) rfl rfl (by decide +kernel) hL1 (okX12_apart (17, .getfield 25, 3) (List.mem_of_getElem? (i := 11) rfl)) ?_
  refine lv_iload_n hx hb (okX12_apart (20, .iload_n 1, 1) (List.mem_of_getElem? (i := 12) rfl)) rfl (lv_at hl 1 rfl) ?_
  obtain ⟨hi6, hM⟩ := hM
  have hr7 := hw.1.2.2 164 p1
  refine sk_ild S hK hw kdn_164 (kd_in kdn_164) (by rw [lnn_164]; exact hi6) (okX12_apart (21, .iaload, 1) (List.mem_of_getElem? (i := 13) rfl)) ?_
  refine lv_aload_n hx hb (okX12_apart (22, .aload_n 0, 1) (List.mem_of_getElem? (i := 14) rfl)) rfl (lv_at hl 0 rfl) ?_
  refine sk_getr (b := 164) S hK hw kdn_158 (kd_in kdn_158) (C := RX12) (T := TX12) (N := 53) rfl hI12 5 ⟨by decide, rfl, by decide, rfl⟩ rfl (k' := 5) rfl rfl (by decide +kernel) hL1 (okX12_apart (23, .getfield 25, 3) (List.mem_of_getElem? (i := 15) rfl)) ?_
  refine lv_iload_n hx hb (okX12_apart (26, .iload_n 2, 1) (List.mem_of_getElem? (i := 16) rfl)) rfl (lv_at hl 2 rfl) ?_
  obtain ⟨hi8, hM⟩ := hM
  have hr9 := hw.1.2.2 164 p2
  refine sk_ild S hK hw kdn_164 (kd_in kdn_164) (by rw [lnn_164]; exact hi8) (okX12_apart (27, .iaload, 1) (List.mem_of_getElem? (i := 17) rfl)) ?_
  refine sk_isub hx hb (okX12_apart (28, .isub, 1) (List.mem_of_getElem? (i := 18) rfl)) ?_
  obtain ⟨hr10, hM⟩ := hM
  refine sk_ci (sk_runS (As := [.int (iI ((I_13 164 p1) - (I_13 164 p2)))]) (rest := [.int (iI r_13)]) S (c_Mo_square l G hr10 hM) sk_blind gX12_apart_X12_square rfl hdX12_square ⟨⟨rfl, rfl⟩, Nat.le_of_ble_eq_true rfl, Nat.le_of_ble_eq_true rfl⟩ (sk_pre hK hw) rfl hl.1 rfl (Nat.le_of_ble_eq_true rfl) (okX12_apart (29, .invokestatic 192, 3) (List.mem_of_getElem? (i := 19) rfl)) ⟨Nat.zero_le _, Nat.zero_le _⟩) hw (fun r_29 I_29 H locs hr_r_29 hM hw => ?_)
  refine sk_iadd hx hb (okX12_apart (32, .iadd, 1) (List.mem_of_getElem? (i := 20) rfl)) ?_
  refine lv_aload_n hx hb (okX12_apart (33, .aload_n 0, 1) (List.mem_of_getElem? (i := 21) rfl)) rfl (lv_at hl 0 rfl) ?_
  refine sk_getr (b := 165) S hK hw kdn_158 (kd_in kdn_158) (C := RX12) (T := TX12) (N := 53) rfl hI12 6 ⟨by decide, rfl, by decide, rfl⟩ rfl (k' := 6) rfl rfl (by decide +kernel) hL2 (okX12_apart (34, .getfield 28, 3) (List.mem_of_getElem? (i := 22) rfl)) ?_
  refine lv_iload_n hx hb (okX12_apart (37, .iload_n 1, 1) (List.mem_of_getElem? (i := 23) rfl)) rfl (lv_at hl 1 rfl) ?_
  obtain ⟨hi11, hM⟩ := hM
  have hr12 := hw.1.2.2 165 p1
  refine sk_ild S hK hw kdn_165 (kd_in kdn_165) (by rw [lnn_165]; exact hi11) (okX12_apart (38, .iaload, 1) (List.mem_of_getElem? (i := 24) rfl)) ?_
  refine lv_aload_n hx hb (okX12_apart (39, .aload_n 0, 1) (List.mem_of_getElem? (i := 25) rfl)) rfl (lv_at hl 0 rfl) ?_
  refine sk_getr (b := 165) S hK hw kdn_158 (kd_in kdn_158) (C := RX12) (T := TX12) (N := 53) rfl hI12 6 ⟨by decide, rfl, by decide, rfl⟩ rfl (k' := 6) rfl rfl (by decide +kernel) hL2 (okX12_apart (40, .getfield 28, 3) (List.mem_of_getElem? (i := 26) rfl)) ?_
  refine lv_iload_n hx hb (okX12_apart (43, .iload_n 2, 1) (List.mem_of_getElem? (i := 27) rfl)) rfl (lv_at hl 2 rfl) ?_
  obtain ⟨hi13, hM⟩ := hM
  have hr14 := hw.1.2.2 165 p2
  refine sk_ild S hK hw kdn_165 (kd_in kdn_165) (by rw [lnn_165]; exact hi13) (okX12_apart (44, .iaload, 1) (List.mem_of_getElem? (i := 28) rfl)) ?_
  refine sk_isub hx hb (okX12_apart (45, .isub, 1) (List.mem_of_getElem? (i := 29) rfl)) ?_
  obtain ⟨hr15, hM⟩ := hM
  refine sk_ci (sk_runS (As := [.int (iI ((I_29 165 p1) - (I_29 165 p2)))]) (rest := [.int (iI (r_13 + r_29))]) S (c_Mo_square l G hr15 hM) sk_blind gX12_apart_X12_square rfl hdX12_square ⟨⟨rfl, rfl⟩, Nat.le_of_ble_eq_true rfl, Nat.le_of_ble_eq_true rfl⟩ (sk_pre hK hw) rfl hl.1 rfl (Nat.le_of_ble_eq_true rfl) (okX12_apart (46, .invokestatic 192, 3) (List.mem_of_getElem? (i := 30) rfl)) ⟨Nat.zero_le _, Nat.zero_le _⟩) hw (fun r_46 I_46 H locs hr_r_46 hM hw => ?_)
  refine sk_iadd hx hb (okX12_apart (49, .iadd, 1) (List.mem_of_getElem? (i := 31) rfl)) ?_
  obtain ⟨hr16, hM⟩ := hM
  exact sk_iret hx hb hr0 hlocks hK hw hr16 hM (okX12_apart (50, .ireturn, 1) (List.mem_of_getElem? (i := 32) rfl))
def rmX12_isNear : Room := { frames := 0, cells := 0, slots := 0, locals := 0 }
set_option maxHeartbeats 4000000 in
set_option maxRecDepth 100000 in
theorem c_Mo_isNear (l : Launch) (G : sk_G) {p0 p2 p4 p6 p8 p10 p12 p14 : Int} (hr_p0 : rL p0) (hr_p2 : rL p2) (hr_p4 : rL p4) (hr_p6 : rL p6) (hr_p8 : rL p8) (hr_p10 : rL p10) (hr_p12 : rL p12) (hr_p14 : rL p14) {Q : Int → sk_S → Prop} {I : sk_S} (hM : M_Mo_isNear p0 p2 p4 p6 p8 p10 p12 p14 Q I) : Met l yX12_isNear wsX12_isNear rmX12_isNear (va_Pc [.long (lI p0), .long (lI p2), .long (lI p4), .long (lI p6), .long (lI p8), .long (lI p10), .long (lI p12), .long (lI p14)] (sk_U G 198 sk_t I)) (sk_Qz G 198 sk_t Q) 0 0 (sk_A G) := by
  refine Met.ofW (cc := cX12_isNear) (maxL := 28) (ret := (some .boolean)) (by decide) rfl ?_
  intro p e s m args below meth c s₁ B hml hv
  obtain ⟨rfl, hU, hK⟩ := hv
  have hx := B.exec
  have hb := B.bytes
  have hr0 := B.returns
  have hts := atoms_spec (ws := wsX12_isNear) B.pre
  have hown : s.vm.findClass RX12 = some m.cls := findClass_of_methodNamed B.named
  have hlocks := B.notSynchronized
  have S : CallFix p m c cX12_isNear 28 s ([.long (lI p0), .long (lI p2), .long (lI p4), .long (lI p6), .long (lI p8), .long (lI p10), .long (lI p12), .long (lI p14)].toArray) wsX12_isNear RX12 := ⟨hx, hb, hml, hown, hts⟩
  have hw : sk_W G 198 sk_t I s s.heap [] := ⟨hU, va_S.rf⟩
  have hl := lv_entry ([.long (lI p0), .long (lI p2), .long (lI p4), .long (lI p6), .long (lI p8), .long (lI p10), .long (lI p12), .long (lI p14)]) (n := 28) (Nat.le_of_ble_eq_true rfl)
  rw [lg_entry_eq]
  generalize (lg_sl ([.long (lI p0), .long (lI p2), .long (lI p4), .long (lI p6), .long (lI p8), .long (lI p10), .long (lI p12), .long (lI p14)]) ++ List.replicate (28 - (lg_sl ([.long (lI p0), .long (lI p2), .long (lI p4), .long (lI p6), .long (lI p8), .long (lI p10), .long (lI p12), .long (lI p14)])).length) Slot.unset).toArray = ls at hl ⊢
  have hl : lv_has ls 28 [(0, .long (lI p0)), (2, .long (lI p2)), (4, .long (lI p4)), (6, .long (lI p6)), (8, .long (lI p8)), (10, .long (lI p10)), (12, .long (lI p12)), (14, .long (lI p14))] := hl
  suffices hgo : ∀ (H : Heap) (locs : List Loc), sk_W G 198 sk_t I s H locs → W p l e (headSpec wsX12_isNear rmX12_isNear).room s m ([.long (lI p0), .long (lI p2), .long (lI p4), .long (lI p6), .long (lI p8), .long (lI p10), .long (lI p12), .long (lI p14)].toArray) below meth c H locs 0 0 (MQ below (sk_Qz G 198 sk_t Q) ([.long (lI p0), .long (lI p2), .long (lI p4), .long (lI p6), .long (lI p8), .long (lI p10), .long (lI p12), .long (lI p14)].toArray) s 0 0 (sk_A G)) (F0 m 0 ls []) from hgo _ _ hw
  unfold M_Mo_isNear at hM
  intro H locs hw
  refine lv_lload_n hx hb (okX12_isNear (0, .lload_n 0, 1) (List.mem_of_getElem? (i := 0) rfl)) rfl (lv_at hl 0 rfl) ?_
  refine lv_lload_n hx hb (okX12_isNear (1, .lload_n 0, 1) (List.mem_of_getElem? (i := 1) rfl)) rfl (lv_at hl 0 rfl) ?_
  refine sk_lmul hx hb (okX12_isNear (2, .lmul, 1) (List.mem_of_getElem? (i := 2) rfl)) ?_
  refine lv_lload_n hx hb (okX12_isNear (3, .lload_n 2, 1) (List.mem_of_getElem? (i := 3) rfl)) rfl (lv_at hl 1 rfl) ?_
  refine lv_lload_n hx hb (okX12_isNear (4, .lload_n 2, 1) (List.mem_of_getElem? (i := 4) rfl)) rfl (lv_at hl 1 rfl) ?_
  refine sk_lmul hx hb (okX12_isNear (5, .lmul, 1) (List.mem_of_getElem? (i := 5) rfl)) ?_
  refine sk_ladd hx hb (okX12_isNear (6, .ladd, 1) (List.mem_of_getElem? (i := 6) rfl)) ?_
  refine lv_lload hx hb (okX12_isNear (7, .lload 4, 2) (List.mem_of_getElem? (i := 7) rfl)) (lv_at hl 2 rfl) ?_
  refine lv_lload hx hb (okX12_isNear (9, .lload 4, 2) (List.mem_of_getElem? (i := 8) rfl)) (lv_at hl 2 rfl) ?_
  refine sk_lmul hx hb (okX12_isNear (11, .lmul, 1) (List.mem_of_getElem? (i := 9) rfl)) ?_
  refine sk_ladd hx hb (okX12_isNear (12, .ladd, 1) (List.mem_of_getElem? (i := 10) rfl)) ?_
  refine lv_lload hx hb (okX12_isNear (13, .lload 14, 2) (List.mem_of_getElem? (i := 11) rfl)) (lv_at hl 7 rfl) ?_
  refine lv_lload hx hb (okX12_isNear (15, .lload 14, 2) (List.mem_of_getElem? (i := 12) rfl)) (lv_at hl 7 rfl) ?_
  refine sk_lmul hx hb (okX12_isNear (17, .lmul, 1) (List.mem_of_getElem? (i := 13) rfl)) ?_
  refine sk_lsub hx hb (okX12_isNear (18, .lsub, 1) (List.mem_of_getElem? (i := 14) rfl)) ?_
  obtain ⟨hr1, hM⟩ := hM
  refine sk_nml (fun v16_19 ev16_19 => ?_)
  have hM := hM v16_19 ev16_19
  have hr_v16_19 : rL v16_19 := by rw [ev16_19]; exact hr1
  refine lv_lstore (lv' := [(16, .long (lI v16_19)), (0, .long (lI p0)), (2, .long (lI p2)), (4, .long (lI p4)), (6, .long (lI p6)), (8, .long (lI p8)), (10, .long (lI p10)), (12, .long (lI p12)), (14, .long (lI p14))]) hx hb (okX12_isNear (19, .lstore 16, 2) (List.mem_of_getElem? (i := 15) rfl)) hl (by decide) rfl (fun ls hl => ?_)
  refine lv_lload hx hb (okX12_isNear (21, .lload 16, 2) (List.mem_of_getElem? (i := 16) rfl)) (lv_at hl 0 rfl) ?_
  refine lv_lconst (v := lI 0) hx hb (okX12_isNear (23, .lconst 0, 1) (List.mem_of_getElem? (i := 17) rfl)) (by decide +kernel) ?_
  refine sk_lcmp hx hb hr_v16_19 (by decide) (okX12_isNear (24, .lcmp, 1) (List.mem_of_getElem? (i := 18) rfl)) ?_
  refine sk_if_ge (tgt := 30) hx hb (rI_lcmp _ _) (okX12_isNear (25, .ifCond .ge 5, 3) (List.mem_of_getElem? (i := 19) rfl)) (by decide) (fun c25 => ?_) (fun c25 => ?_)
  · have hM := hM.1 (lcmp_ge.1 c25)
    refine lv_lload_n hx hb (okX12_isNear (30, .lload_n 0, 1) (List.mem_of_getElem? (i := 22) rfl)) rfl (lv_at hl 1 rfl) ?_
    refine lv_lload hx hb (okX12_isNear (31, .lload 6, 2) (List.mem_of_getElem? (i := 23) rfl)) (lv_at hl 4 rfl) ?_
    refine lv_lload hx hb (okX12_isNear (33, .lload 12, 2) (List.mem_of_getElem? (i := 24) rfl)) (lv_at hl 7 rfl) ?_
    refine sk_lmul hx hb (okX12_isNear (35, .lmul, 1) (List.mem_of_getElem? (i := 25) rfl)) ?_
    refine sk_ladd hx hb (okX12_isNear (36, .ladd, 1) (List.mem_of_getElem? (i := 26) rfl)) ?_
    obtain ⟨hr2, hM⟩ := hM
    refine sk_nml (fun v18_37 ev18_37 => ?_)
    have hM := hM v18_37 ev18_37
    have hr_v18_37 : rL v18_37 := by rw [ev18_37]; exact hr2
    refine lv_lstore (lv' := [(18, .long (lI v18_37)), (16, .long (lI v16_19)), (0, .long (lI p0)), (2, .long (lI p2)), (4, .long (lI p4)), (6, .long (lI p6)), (8, .long (lI p8)), (10, .long (lI p10)), (12, .long (lI p12)), (14, .long (lI p14))]) hx hb (okX12_isNear (37, .lstore 18, 2) (List.mem_of_getElem? (i := 27) rfl)) hl (by decide) rfl (fun ls hl => ?_)
    refine lv_lload_n hx hb (okX12_isNear (39, .lload_n 2, 1) (List.mem_of_getElem? (i := 28) rfl)) rfl (lv_at hl 3 rfl) ?_
    refine lv_lload hx hb (okX12_isNear (40, .lload 8, 2) (List.mem_of_getElem? (i := 29) rfl)) (lv_at hl 6 rfl) ?_
    refine lv_lload hx hb (okX12_isNear (42, .lload 12, 2) (List.mem_of_getElem? (i := 30) rfl)) (lv_at hl 8 rfl) ?_
    refine sk_lmul hx hb (okX12_isNear (44, .lmul, 1) (List.mem_of_getElem? (i := 31) rfl)) ?_
    refine sk_ladd hx hb (okX12_isNear (45, .ladd, 1) (List.mem_of_getElem? (i := 32) rfl)) ?_
    obtain ⟨hr3, hM⟩ := hM
    refine sk_nml (fun v20_46 ev20_46 => ?_)
    have hM := hM v20_46 ev20_46
    have hr_v20_46 : rL v20_46 := by rw [ev20_46]; exact hr3
    refine lv_lstore (lv' := [(20, .long (lI v20_46)), (18, .long (lI v18_37)), (16, .long (lI v16_19)), (0, .long (lI p0)), (2, .long (lI p2)), (4, .long (lI p4)), (6, .long (lI p6)), (8, .long (lI p8)), (10, .long (lI p10)), (12, .long (lI p12)), (14, .long (lI p14))]) hx hb (okX12_isNear (46, .lstore 20, 2) (List.mem_of_getElem? (i := 33) rfl)) hl (by decide) rfl (fun ls hl => ?_)
    refine lv_lload hx hb (okX12_isNear (48, .lload 4, 2) (List.mem_of_getElem? (i := 34) rfl)) (lv_at hl 5 rfl) ?_
    refine lv_lload hx hb (okX12_isNear (50, .lload 10, 2) (List.mem_of_getElem? (i := 35) rfl)) (lv_at hl 8 rfl) ?_
    refine lv_lload hx hb (okX12_isNear (52, .lload 12, 2) (List.mem_of_getElem? (i := 36) rfl)) (lv_at hl 9 rfl) ?_
    refine sk_lmul hx hb (okX12_isNear (54, .lmul, 1) (List.mem_of_getElem? (i := 37) rfl)) ?_
    refine sk_ladd hx hb (okX12_isNear (55, .ladd, 1) (List.mem_of_getElem? (i := 38) rfl)) ?_
    obtain ⟨hr4, hM⟩ := hM
    refine sk_nml (fun v22_56 ev22_56 => ?_)
    have hM := hM v22_56 ev22_56
    have hr_v22_56 : rL v22_56 := by rw [ev22_56]; exact hr4
    refine lv_lstore (lv' := [(22, .long (lI v22_56)), (20, .long (lI v20_46)), (18, .long (lI v18_37)), (16, .long (lI v16_19)), (0, .long (lI p0)), (2, .long (lI p2)), (4, .long (lI p4)), (6, .long (lI p6)), (8, .long (lI p8)), (10, .long (lI p10)), (12, .long (lI p12)), (14, .long (lI p14))]) hx hb (okX12_isNear (56, .lstore 22, 2) (List.mem_of_getElem? (i := 39) rfl)) hl (by decide) rfl (fun ls hl => ?_)
    refine lv_lload hx hb (okX12_isNear (58, .lload 18, 2) (List.mem_of_getElem? (i := 40) rfl)) (lv_at hl 2 rfl) ?_
    refine lv_lload hx hb (okX12_isNear (60, .lload 18, 2) (List.mem_of_getElem? (i := 41) rfl)) (lv_at hl 2 rfl) ?_
    refine sk_lmul hx hb (okX12_isNear (62, .lmul, 1) (List.mem_of_getElem? (i := 42) rfl)) ?_
    refine lv_lload hx hb (okX12_isNear (63, .lload 20, 2) (List.mem_of_getElem? (i := 43) rfl)) (lv_at hl 1 rfl) ?_
    refine lv_lload hx hb (okX12_isNear (65, .lload 20, 2) (List.mem_of_getElem? (i := 44) rfl)) (lv_at hl 1 rfl) ?_
    refine sk_lmul hx hb (okX12_isNear (67, .lmul, 1) (List.mem_of_getElem? (i := 45) rfl)) ?_
    refine sk_ladd hx hb (okX12_isNear (68, .ladd, 1) (List.mem_of_getElem? (i := 46) rfl)) ?_
    refine lv_lload hx hb (okX12_isNear (69, .lload 22, 2) (List.mem_of_getElem? (i := 47) rfl)) (lv_at hl 0 rfl) ?_
    refine lv_lload hx hb (okX12_isNear (71, .lload 22, 2) (List.mem_of_getElem? (i := 48) rfl)) (lv_at hl 0 rfl) ?_
    refine sk_lmul hx hb (okX12_isNear (73, .lmul, 1) (List.mem_of_getElem? (i := 49) rfl)) ?_
    refine sk_ladd hx hb (okX12_isNear (74, .ladd, 1) (List.mem_of_getElem? (i := 50) rfl)) ?_
    refine lv_lload hx hb (okX12_isNear (75, .lload 14, 2) (List.mem_of_getElem? (i := 51) rfl)) (lv_at hl 11 rfl) ?_
    refine lv_lload hx hb (okX12_isNear (77, .lload 14, 2) (List.mem_of_getElem? (i := 52) rfl)) (lv_at hl 11 rfl) ?_
    refine sk_lmul hx hb (okX12_isNear (79, .lmul, 1) (List.mem_of_getElem? (i := 53) rfl)) ?_
    obtain ⟨hr5, hM⟩ := hM
    obtain ⟨hr6, hM⟩ := hM
    refine sk_lcmp hx hb hr5 hr6 (okX12_isNear (80, .lcmp, 1) (List.mem_of_getElem? (i := 54) rfl)) ?_
    refine sk_if_ge (tgt := 86) hx hb (rI_lcmp _ _) (okX12_isNear (81, .ifCond .ge 5, 3) (List.mem_of_getElem? (i := 55) rfl)) (by decide) (fun c81 => ?_) (fun c81 => ?_)
    · have hM := hM.1 (lcmp_ge.1 c81)
      refine lv_lload hx hb (okX12_isNear (86, .lload 6, 2) (List.mem_of_getElem? (i := 58) rfl)) (lv_at hl 7 rfl) ?_
      refine lv_lload hx hb (okX12_isNear (88, .lload 6, 2) (List.mem_of_getElem? (i := 59) rfl)) (lv_at hl 7 rfl) ?_
      refine sk_lmul hx hb (okX12_isNear (90, .lmul, 1) (List.mem_of_getElem? (i := 60) rfl)) ?_
      refine lv_lload hx hb (okX12_isNear (91, .lload 8, 2) (List.mem_of_getElem? (i := 61) rfl)) (lv_at hl 8 rfl) ?_
      refine lv_lload hx hb (okX12_isNear (93, .lload 8, 2) (List.mem_of_getElem? (i := 62) rfl)) (lv_at hl 8 rfl) ?_
      refine sk_lmul hx hb (okX12_isNear (95, .lmul, 1) (List.mem_of_getElem? (i := 63) rfl)) ?_
      refine sk_ladd hx hb (okX12_isNear (96, .ladd, 1) (List.mem_of_getElem? (i := 64) rfl)) ?_
      refine lv_lload hx hb (okX12_isNear (97, .lload 10, 2) (List.mem_of_getElem? (i := 65) rfl)) (lv_at hl 9 rfl) ?_
      refine lv_lload hx hb (okX12_isNear (99, .lload 10, 2) (List.mem_of_getElem? (i := 66) rfl)) (lv_at hl 9 rfl) ?_
      refine sk_lmul hx hb (okX12_isNear (101, .lmul, 1) (List.mem_of_getElem? (i := 67) rfl)) ?_
      refine sk_ladd hx hb (okX12_isNear (102, .ladd, 1) (List.mem_of_getElem? (i := 68) rfl)) ?_
      obtain ⟨hr7, hM⟩ := hM
      refine sk_nml (fun v24_103 ev24_103 => ?_)
      have hM := hM v24_103 ev24_103
      have hr_v24_103 : rL v24_103 := by rw [ev24_103]; exact hr7
      refine lv_lstore (lv' := [(24, .long (lI v24_103)), (22, .long (lI v22_56)), (20, .long (lI v20_46)), (18, .long (lI v18_37)), (16, .long (lI v16_19)), (0, .long (lI p0)), (2, .long (lI p2)), (4, .long (lI p4)), (6, .long (lI p6)), (8, .long (lI p8)), (10, .long (lI p10)), (12, .long (lI p12)), (14, .long (lI p14))]) hx hb (okX12_isNear (103, .lstore 24, 2) (List.mem_of_getElem? (i := 69) rfl)) hl (by decide) rfl (fun ls hl => ?_)
      refine lv_lload_n hx hb (okX12_isNear (105, .lload_n 0, 1) (List.mem_of_getElem? (i := 70) rfl)) rfl (lv_at hl 5 rfl) ?_
      refine lv_lload hx hb (okX12_isNear (106, .lload 6, 2) (List.mem_of_getElem? (i := 71) rfl)) (lv_at hl 8 rfl) ?_
      refine sk_lmul hx hb (okX12_isNear (108, .lmul, 1) (List.mem_of_getElem? (i := 72) rfl)) ?_
      refine lv_lload_n hx hb (okX12_isNear (109, .lload_n 2, 1) (List.mem_of_getElem? (i := 73) rfl)) rfl (lv_at hl 6 rfl) ?_
      refine lv_lload hx hb (okX12_isNear (110, .lload 8, 2) (List.mem_of_getElem? (i := 74) rfl)) (lv_at hl 9 rfl) ?_
      refine sk_lmul hx hb (okX12_isNear (112, .lmul, 1) (List.mem_of_getElem? (i := 75) rfl)) ?_
      refine sk_ladd hx hb (okX12_isNear (113, .ladd, 1) (List.mem_of_getElem? (i := 76) rfl)) ?_
      refine lv_lload hx hb (okX12_isNear (114, .lload 4, 2) (List.mem_of_getElem? (i := 77) rfl)) (lv_at hl 7 rfl) ?_
      refine lv_lload hx hb (okX12_isNear (116, .lload 10, 2) (List.mem_of_getElem? (i := 78) rfl)) (lv_at hl 10 rfl) ?_
      refine sk_lmul hx hb (okX12_isNear (118, .lmul, 1) (List.mem_of_getElem? (i := 79) rfl)) ?_
      refine sk_ladd hx hb (okX12_isNear (119, .ladd, 1) (List.mem_of_getElem? (i := 80) rfl)) ?_
      obtain ⟨hr8, hM⟩ := hM
      refine sk_nml (fun v26_120 ev26_120 => ?_)
      have hM := hM v26_120 ev26_120
      have hr_v26_120 : rL v26_120 := by rw [ev26_120]; exact hr8
      refine lv_lstore (lv' := [(26, .long (lI v26_120)), (24, .long (lI v24_103)), (22, .long (lI v22_56)), (20, .long (lI v20_46)), (18, .long (lI v18_37)), (16, .long (lI v16_19)), (0, .long (lI p0)), (2, .long (lI p2)), (4, .long (lI p4)), (6, .long (lI p6)), (8, .long (lI p8)), (10, .long (lI p10)), (12, .long (lI p12)), (14, .long (lI p14))]) hx hb (okX12_isNear (120, .lstore 26, 2) (List.mem_of_getElem? (i := 81) rfl)) hl (by decide) rfl (fun ls hl => ?_)
      refine lv_lload hx hb (okX12_isNear (122, .lload 26, 2) (List.mem_of_getElem? (i := 82) rfl)) (lv_at hl 0 rfl) ?_
      refine lv_lconst (v := lI 0) hx hb (okX12_isNear (124, .lconst 0, 1) (List.mem_of_getElem? (i := 83) rfl)) (by decide +kernel) ?_
      refine sk_lcmp hx hb hr_v26_120 (by decide) (okX12_isNear (125, .lcmp, 1) (List.mem_of_getElem? (i := 84) rfl)) ?_
      refine sk_if_ge (tgt := 159) hx hb (rI_lcmp _ _) (okX12_isNear (126, .ifCond .ge 33, 3) (List.mem_of_getElem? (i := 85) rfl)) (by decide) (fun c126 => ?_) (fun c126 => ?_)
      · have hM := hM.1 (lcmp_ge.1 c126)
        refine lv_iconst (v := iI 0) hx hb (okX12_isNear (159, .iconst 0, 1) (List.mem_of_getElem? (i := 103) rfl)) rfl ?_
        exact sk_zret hx hb hr0 hlocks hK hw (Or.inl rfl) hM (okX12_isNear (160, .ireturn, 1) (List.mem_of_getElem? (i := 104) rfl))
      · have hM := hM.2 (fun q => c126 (lcmp_ge.2 q))
        refine lv_lload hx hb (okX12_isNear (129, .lload 26, 2) (List.mem_of_getElem? (i := 86) rfl)) (lv_at hl 0 rfl) ?_
        refine sk_lneg hx hb (okX12_isNear (131, .lneg, 1) (List.mem_of_getElem? (i := 87) rfl)) ?_
        refine lv_lload hx hb (okX12_isNear (132, .lload 24, 2) (List.mem_of_getElem? (i := 88) rfl)) (lv_at hl 1 rfl) ?_
        refine lv_lload hx hb (okX12_isNear (134, .lload 12, 2) (List.mem_of_getElem? (i := 89) rfl)) (lv_at hl 12 rfl) ?_
        refine sk_lmul hx hb (okX12_isNear (136, .lmul, 1) (List.mem_of_getElem? (i := 90) rfl)) ?_
        obtain ⟨hr9, hM⟩ := hM
        obtain ⟨hr10, hM⟩ := hM
        refine sk_lcmp hx hb hr9 hr10 (okX12_isNear (137, .lcmp, 1) (List.mem_of_getElem? (i := 91) rfl)) ?_
        refine sk_if_ge (tgt := 159) hx hb (rI_lcmp _ _) (okX12_isNear (138, .ifCond .ge 21, 3) (List.mem_of_getElem? (i := 92) rfl)) (by decide) (fun c138 => ?_) (fun c138 => ?_)
        · have hM := hM.1 (lcmp_ge.1 c138)
          refine lv_iconst (v := iI 0) hx hb (okX12_isNear (159, .iconst 0, 1) (List.mem_of_getElem? (i := 103) rfl)) rfl ?_
          exact sk_zret hx hb hr0 hlocks hK hw (Or.inl rfl) hM (okX12_isNear (160, .ireturn, 1) (List.mem_of_getElem? (i := 104) rfl))
        · have hM := hM.2 (fun q => c138 (lcmp_ge.2 q))
          refine lv_lload hx hb (okX12_isNear (141, .lload 26, 2) (List.mem_of_getElem? (i := 93) rfl)) (lv_at hl 0 rfl) ?_
          refine lv_lload hx hb (okX12_isNear (143, .lload 26, 2) (List.mem_of_getElem? (i := 94) rfl)) (lv_at hl 0 rfl) ?_
          refine sk_lmul hx hb (okX12_isNear (145, .lmul, 1) (List.mem_of_getElem? (i := 95) rfl)) ?_
          refine lv_lload hx hb (okX12_isNear (146, .lload 24, 2) (List.mem_of_getElem? (i := 96) rfl)) (lv_at hl 1 rfl) ?_
          refine lv_lload hx hb (okX12_isNear (148, .lload 16, 2) (List.mem_of_getElem? (i := 97) rfl)) (lv_at hl 5 rfl) ?_
          refine sk_lmul hx hb (okX12_isNear (150, .lmul, 1) (List.mem_of_getElem? (i := 98) rfl)) ?_
          obtain ⟨hr11, hM⟩ := hM
          obtain ⟨hr12, hM⟩ := hM
          refine sk_lcmp hx hb hr11 hr12 (okX12_isNear (151, .lcmp, 1) (List.mem_of_getElem? (i := 99) rfl)) ?_
          refine sk_if_le (tgt := 159) hx hb (rI_lcmp _ _) (okX12_isNear (152, .ifCond .le 7, 3) (List.mem_of_getElem? (i := 100) rfl)) (by decide) (fun c152 => ?_) (fun c152 => ?_)
          · have hM := hM.1 (lcmp_le.1 c152)
            refine lv_iconst (v := iI 0) hx hb (okX12_isNear (159, .iconst 0, 1) (List.mem_of_getElem? (i := 103) rfl)) rfl ?_
            exact sk_zret hx hb hr0 hlocks hK hw (Or.inl rfl) hM (okX12_isNear (160, .ireturn, 1) (List.mem_of_getElem? (i := 104) rfl))
          · have hM := hM.2 (fun q => c152 (lcmp_le.2 q))
            refine lv_iconst (v := iI 1) hx hb (okX12_isNear (155, .iconst 1, 1) (List.mem_of_getElem? (i := 101) rfl)) rfl ?_
            refine lv_goto (tgt := 160) hx hb (okX12_isNear (156, .goto 4, 3) (List.mem_of_getElem? (i := 102) rfl)) (by decide) ?_
            exact sk_zret hx hb hr0 hlocks hK hw (Or.inr rfl) hM (okX12_isNear (160, .ireturn, 1) (List.mem_of_getElem? (i := 104) rfl))
    · have hM := hM.2 (fun q => c81 (lcmp_ge.2 q))
      refine lv_iconst (v := iI 1) hx hb (okX12_isNear (84, .iconst 1, 1) (List.mem_of_getElem? (i := 56) rfl)) rfl ?_
      exact sk_zret hx hb hr0 hlocks hK hw (Or.inr rfl) hM (okX12_isNear (85, .ireturn, 1) (List.mem_of_getElem? (i := 57) rfl))
  · have hM := hM.2 (fun q => c25 (lcmp_ge.2 q))
    refine lv_iconst (v := iI 1) hx hb (okX12_isNear (28, .iconst 1, 1) (List.mem_of_getElem? (i := 20) rfl)) rfl ?_
    exact sk_zret hx hb hr0 hlocks hK hw (Or.inr rfl) hM (okX12_isNear (29, .ireturn, 1) (List.mem_of_getElem? (i := 21) rfl))
