def rmX12_sumOf : Room := { frames := 0, cells := 0, slots := 0, locals := 0 }
set_option maxHeartbeats 4000000 in
set_option maxRecDepth 100000 in
theorem c_Mo_sumOf (l : Launch) (G : sk_G) {p0 : Int} (hr_p0 : rI p0) {Q : Int → sk_S → Prop} {I : sk_S} (hM : M_Mo_sumOf p0 Q I) : Met l yX12_sumOf wsX12_sumOf rmX12_sumOf (va_Pc [.int (iI p0)] (sk_U G 198 sk_t I)) (sk_Qi G 198 sk_t Q) 0 0 (sk_A G) := by
  refine Met.ofW (cc := cX12_sumOf) (maxL := 3) (ret := (some .int)) (by decide) rfl ?_
  intro p e s m args below meth c s₁ B hml hv
  obtain ⟨rfl, hU, hK⟩ := hv
  have hx := B.exec
  have hb := B.bytes
  have hr0 := B.returns
  have hts := atoms_spec (ws := wsX12_sumOf) B.pre
  have hown : s.vm.findClass RX12 = some m.cls := findClass_of_methodNamed B.named
  have hlocks := B.notSynchronized
  have S : CallFix p m c cX12_sumOf 3 s ([.int (iI p0)].toArray) wsX12_sumOf RX12 := ⟨hx, hb, hml, hown, hts⟩
  have hw : sk_W G 198 sk_t I s s.heap [] := ⟨hU, va_S.rf⟩
  have hl := lv_entry ([.int (iI p0)]) (n := 3) (Nat.le_of_ble_eq_true rfl)
  rw [lg_entry_eq]
  generalize (lg_sl ([.int (iI p0)]) ++ List.replicate (3 - (lg_sl ([.int (iI p0)])).length) Slot.unset).toArray = ls at hl ⊢
  have hl : lv_has ls 3 [(0, .int (iI p0))] := hl
  suffices hgo : ∀ (H : Heap) (locs : List Loc), sk_W G 198 sk_t I s H locs → W p l e (headSpec wsX12_sumOf rmX12_sumOf).room s m ([.int (iI p0)].toArray) below meth c H locs 0 0 (MQ below (sk_Qi G 198 sk_t Q) ([.int (iI p0)].toArray) s 0 0 (sk_A G)) (F0 m 0 ls []) from hgo _ _ hw
  have hJ_4 : ∀ (v1 v2 : Int) (I : sk_S), rI v1 → rI v2 → L_Mo_sumOf_4 Q v1 v2 I → ∀ (H : Heap) (locs : List Loc) (ls : Array Slot), sk_W G 198 sk_t I s H locs → lv_has ls 3 [(1, .int (iI v1)), (2, .int (iI v2))] → W p l e (headSpec wsX12_sumOf rmX12_sumOf).room s m ([.int (iI p0)].toArray) below meth c H locs 0 0 (MQ below (sk_Qi G 198 sk_t Q) ([.int (iI p0)].toArray) s 0 0 (sk_A G)) (F0 m 4 ls []) := by
    intro v1 v2 I hr_v1 hr_v2 hM H locs ls hw hl
    unfold L_Mo_sumOf_4 at hM
    obtain ⟨X_4, hX_4⟩ : ∃ X : Int → Int → sk_S → Prop, ∀ (v1 v2 : Int) (I : sk_S), X v1 v2 I ↔ (rI v1 → rI v2 → ∀ (H : Heap) (locs : List Loc) (ls : Array Slot), sk_W G 198 sk_t I s H locs → lv_has ls 3 [(1, .int (iI v1)), (2, .int (iI v2))] → W p l e (headSpec wsX12_sumOf rmX12_sumOf).room s m ([.int (iI p0)].toArray) below meth c H locs 0 0 (MQ below (sk_Qi G 198 sk_t Q) ([.int (iI p0)].toArray) s 0 0 (sk_A G)) (F0 m 4 ls [])) := ⟨_, fun _ _ _ => Iff.rfl⟩
    refine (hX_4 v1 v2 I).1 (hM X_4 (fun v1 v2 I hM => (hX_4 v1 v2 I).2 (fun hr_v1 hr_v2 H locs ls hw hl => ?_))) hr_v1 hr_v2 H locs ls hw hl
    refine lv_iload_n hx hb (okX12_sumOf (4, .iload_n 2, 1) (List.mem_of_getElem? (i := 4) rfl)) rfl (lv_at hl 1 rfl) ?_
    refine sk_if_le (tgt := 21) hx hb hr_v2 (okX12_sumOf (5, .ifCond .le 16, 3) (List.mem_of_getElem? (i := 5) rfl)) (by decide) (fun c5 => ?_) (fun c5 => ?_)
    · have hM := hM.1 c5
      refine lv_iload_n hx hb (okX12_sumOf (21, .iload_n 1, 1) (List.mem_of_getElem? (i := 17) rfl)) rfl (lv_at hl 0 rfl) ?_
      exact sk_iret hx hb hr0 hlocks hK hw hr_v1 hM (okX12_sumOf (22, .ireturn, 1) (List.mem_of_getElem? (i := 18) rfl))
    · have hM := hM.2 c5
      refine lv_iload_n hx hb (okX12_sumOf (8, .iload_n 1, 1) (List.mem_of_getElem? (i := 6) rfl)) rfl (lv_at hl 0 rfl) ?_
      refine lv_iload_n hx hb (okX12_sumOf (9, .iload_n 2, 1) (List.mem_of_getElem? (i := 7) rfl)) rfl (lv_at hl 1 rfl) ?_
      refine lv_iconst (v := iI 3) hx hb (okX12_sumOf (10, .iconst 3, 1) (List.mem_of_getElem? (i := 8) rfl)) rfl ?_
      refine sk_iand hx hb (okX12_sumOf (11, .iand, 1) (List.mem_of_getElem? (i := 9) rfl)) ?_
      refine sk_iadd hx hb (okX12_sumOf (12, .iadd, 1) (List.mem_of_getElem? (i := 10) rfl)) ?_
      obtain ⟨hr1, hM⟩ := hM
      refine sk_nm (fun v1_13 ev1_13 => ?_)
      have hM := hM v1_13 ev1_13
      have hr_v1_13 : rI v1_13 := by rw [ev1_13]; exact hr1
      refine lv_istore_n (lv' := [(1, .int (iI v1_13)), (2, .int (iI v2))]) hx hb (okX12_sumOf (13, .istore_n 1, 1) (List.mem_of_getElem? (i := 11) rfl)) rfl hl (by decide) rfl (fun ls hl => ?_)
      refine lv_iload_n hx hb (okX12_sumOf (14, .iload_n 2, 1) (List.mem_of_getElem? (i := 12) rfl)) rfl (lv_at hl 1 rfl) ?_
      refine lv_iconst (v := iI 2) hx hb (okX12_sumOf (15, .iconst 2, 1) (List.mem_of_getElem? (i := 13) rfl)) rfl ?_
      refine sk_ishr hx hb (okX12_sumOf (16, .ishr, 1) (List.mem_of_getElem? (i := 14) rfl)) ?_
      refine sk_nm (fun v2_17 ev2_17 => ?_)
      have hM := hM v2_17 ev2_17
      have hr_v2_17 : rI v2_17 := by rw [ev2_17]; exact (rI_of _)
      refine lv_istore_n (lv' := [(2, .int (iI v2_17)), (1, .int (iI v1_13))]) hx hb (okX12_sumOf (17, .istore_n 2, 1) (List.mem_of_getElem? (i := 15) rfl)) rfl hl (by decide) rfl (fun ls hl => ?_)
      refine lv_goto (tgt := 4) hx hb (okX12_sumOf (18, .goto (-14), 3) (List.mem_of_getElem? (i := 16) rfl)) (by decide) ?_
      exact (hX_4 v1_13 v2_17 I).1 hM hr_v1_13 hr_v2_17 H locs ls hw (lv_sub hl [1, 0] rfl)
  unfold M_Mo_sumOf at hM
  intro H locs hw
  refine lv_iconst (v := iI 0) hx hb (okX12_sumOf (0, .iconst 0, 1) (List.mem_of_getElem? (i := 0) rfl)) rfl ?_
  refine lv_istore_n (lv' := [(1, .int (iI 0)), (0, .int (iI p0))]) hx hb (okX12_sumOf (1, .istore_n 1, 1) (List.mem_of_getElem? (i := 1) rfl)) rfl hl (by decide) rfl (fun ls hl => ?_)
  refine lv_iload_n hx hb (okX12_sumOf (2, .iload_n 0, 1) (List.mem_of_getElem? (i := 2) rfl)) rfl (lv_at hl 1 rfl) ?_
  refine lv_istore_n (lv' := [(2, .int (iI p0)), (1, .int (iI 0)), (0, .int (iI p0))]) hx hb (okX12_sumOf (3, .istore_n 2, 1) (List.mem_of_getElem? (i := 3) rfl)) rfl hl (by decide) rfl (fun ls hl => ?_)
  exact hJ_4 0 p0 I (by decide) hr_p0 hM H locs ls hw (lv_sub hl [1, 0] rfl)
def rmX12_waits : Room := { frames := 0, cells := 0, slots := 0, locals := 0 }
set_option maxHeartbeats 4000000 in
set_option maxRecDepth 100000 in
theorem c_Mo_waits (l : Launch) (G : sk_G) {p1 p2 : Int} (hr_p1 : rI p1) (hr_p2 : rI p2) {Q : sk_S → Prop} {I : sk_S} (hM : M_Mo_waits p1 p2 Q I) : Met l yX12_waits wsX12_waits rmX12_waits (va_Pc [.ref (sk_ad G 158), .int (iI p1), .int (iI p2)] (sk_U G 198 sk_t I)) (sk_Qv G 198 sk_t Q) 0 0 (sk_A G) := by
  refine Met.ofW (cc := cX12_waits) (maxL := 5) (ret := none) (by decide) rfl ?_
  intro p e s m args below meth c s₁ B hml hv
  obtain ⟨rfl, hU, hK⟩ := hv
  have hx := B.exec
  have hb := B.bytes
  have hr0 := B.returns
  have hts := atoms_spec (ws := wsX12_waits) B.pre
  have hown : s.vm.findClass RX12 = some m.cls := findClass_of_methodNamed B.named
  have hlocks := B.notSynchronized
  have S : CallFix p m c cX12_waits 5 s ([.ref (sk_ad G 158), .int (iI p1), .int (iI p2)].toArray) wsX12_waits RX12 := ⟨hx, hb, hml, hown, hts⟩
  have hL0 := hts (.fieldLink RX12 59 "SkyLightsModel" "wait" "[I") (by decide +kernel)
  have hI12 : ∀ w ∈ u_ws RX12 TX12 53, w ∈ wsX12_waits := by decide +kernel
  have hw : sk_W G 198 sk_t I s s.heap [] := ⟨hU, va_S.rf⟩
  have hl := lv_entry ([.ref (sk_ad G 158), .int (iI p1), .int (iI p2)]) (n := 5) (Nat.le_of_ble_eq_true rfl)
  rw [lg_entry_eq]
  generalize (lg_sl ([.ref (sk_ad G 158), .int (iI p1), .int (iI p2)]) ++ List.replicate (5 - (lg_sl ([.ref (sk_ad G 158), .int (iI p1), .int (iI p2)])).length) Slot.unset).toArray = ls at hl ⊢
  have hl : lv_has ls 5 [(0, .ref (sk_ad G 158)), (1, .int (iI p1)), (2, .int (iI p2))] := hl
  suffices hgo : ∀ (H : Heap) (locs : List Loc), sk_W G 198 sk_t I s H locs → W p l e (headSpec wsX12_waits rmX12_waits).room s m ([.ref (sk_ad G 158), .int (iI p1), .int (iI p2)].toArray) below meth c H locs 0 0 (MQ below (sk_Qv G 198 sk_t Q) ([.ref (sk_ad G 158), .int (iI p1), .int (iI p2)].toArray) s 0 0 (sk_A G)) (F0 m 0 ls []) from hgo _ _ hw
  have hJ_7 : ∀ (v3 v4 : Int) (I : sk_S), rI v3 → rI v4 → L_Mo_waits_7 Q v3 v4 I → ∀ (H : Heap) (locs : List Loc) (ls : Array Slot), sk_W G 198 sk_t I s H locs → lv_has ls 5 [(0, .ref (sk_ad G 158)), (3, .int (iI v3)), (4, .int (iI v4))] → W p l e (headSpec wsX12_waits rmX12_waits).room s m ([.ref (sk_ad G 158), .int (iI p1), .int (iI p2)].toArray) below meth c H locs 0 0 (MQ below (sk_Qv G 198 sk_t Q) ([.ref (sk_ad G 158), .int (iI p1), .int (iI p2)].toArray) s 0 0 (sk_A G)) (F0 m 7 ls []) := by
    intro v3 v4 I hr_v3 hr_v4 hM H locs ls hw hl
    unfold L_Mo_waits_7 at hM
    obtain ⟨X_7, hX_7⟩ : ∃ X : Int → Int → sk_S → Prop, ∀ (v3 v4 : Int) (I : sk_S), X v3 v4 I ↔ (rI v3 → rI v4 → ∀ (H : Heap) (locs : List Loc) (ls : Array Slot), sk_W G 198 sk_t I s H locs → lv_has ls 5 [(0, .ref (sk_ad G 158)), (3, .int (iI v3)), (4, .int (iI v4))] → W p l e (headSpec wsX12_waits rmX12_waits).room s m ([.ref (sk_ad G 158), .int (iI p1), .int (iI p2)].toArray) below meth c H locs 0 0 (MQ below (sk_Qv G 198 sk_t Q) ([.ref (sk_ad G 158), .int (iI p1), .int (iI p2)].toArray) s 0 0 (sk_A G)) (F0 m 7 ls [])) := ⟨_, fun _ _ _ => Iff.rfl⟩
    refine (hX_7 v3 v4 I).1 (hM X_7 (fun v3 v4 I hM => (hX_7 v3 v4 I).2 (fun hr_v3 hr_v4 H locs ls hw hl => ?_))) hr_v3 hr_v4 H locs ls hw hl
    refine lv_iload hx hb (okX12_waits (7, .iload 4, 2) (List.mem_of_getElem? (i := 6) rfl)) (lv_at hl 2 rfl) ?_
    refine sk_if_lt (tgt := 32) hx hb hr_v4 (okX12_waits (9, .ifCond .lt 23, 3) (List.mem_of_getElem? (i := 7) rfl)) (by decide) (fun c9 => ?_) (fun c9 => ?_)
    · have hM := hM.1 c9
      exact sk_vret hx hb hr0 hlocks hK hw hM (okX12_waits (32, .return_, 1) (List.mem_of_getElem? (i := 21) rfl))
    · have hM := hM.2 c9
      refine lv_aload_n hx hb (okX12_waits (12, .aload_n 0, 1) (List.mem_of_getElem? (i := 8) rfl)) rfl (lv_at hl 0 rfl) ?_
      refine sk_getr (b := 174) S hK hw kdn_158 (kd_in kdn_158) (C := RX12) (T := TX12) (N := 53) rfl hI12 24 ⟨by decide, rfl, by decide, rfl⟩ rfl (k' := 24) rfl rfl (by decide +kernel) hL0 (okX12_waits (13, .getfield 59, 3) (List.mem_of_getElem? (i := 9) rfl)) ?_
      refine lv_iload hx hb (okX12_waits (16, .iload 4, 2) (List.mem_of_getElem? (i := 10) rfl)) (lv_at hl 2 rfl) ?_
      refine lv_iload_n hx hb (okX12_waits (18, .iload_n 3, 1) (List.mem_of_getElem? (i := 11) rfl)) rfl (lv_at hl 1 rfl) ?_
      refine lv_iconst (v := iI 3) hx hb (okX12_waits (19, .iconst 3, 1) (List.mem_of_getElem? (i := 12) rfl)) rfl ?_
      refine sk_iand hx hb (okX12_waits (20, .iand, 1) (List.mem_of_getElem? (i := 13) rfl)) ?_
      obtain ⟨hi2, hM⟩ := hM
      refine sk_ist S hK hw kdn_174 (kd_in kdn_174) (by rw [lnn_174]; exact hi2) (rI_of _) (okX12_waits (21, .iastore, 1) (List.mem_of_getElem? (i := 14) rfl)) (fun H locs hw => ?_)
      refine lv_iload_n hx hb (okX12_waits (22, .iload_n 3, 1) (List.mem_of_getElem? (i := 15) rfl)) rfl (lv_at hl 1 rfl) ?_
      refine lv_iconst (v := iI 2) hx hb (okX12_waits (23, .iconst 2, 1) (List.mem_of_getElem? (i := 16) rfl)) rfl ?_
      refine sk_ishr hx hb (okX12_waits (24, .ishr, 1) (List.mem_of_getElem? (i := 17) rfl)) ?_
      refine sk_nm (fun v3_25 ev3_25 => ?_)
      have hM := hM v3_25 ev3_25
      have hr_v3_25 : rI v3_25 := by rw [ev3_25]; exact (rI_of _)
      refine lv_istore_n (lv' := [(3, .int (iI v3_25)), (0, .ref (sk_ad G 158)), (4, .int (iI v4))]) hx hb (okX12_waits (25, .istore_n 3, 1) (List.mem_of_getElem? (i := 18) rfl)) rfl hl (by decide) rfl (fun ls hl => ?_)
      obtain ⟨hr3, hM⟩ := hM
      obtain ⟨v4_26, ev4_26⟩ : ∃ y : Int, y = v4 + (-1) := ⟨_, rfl⟩
      have hM := hM v4_26 ev4_26
      have hr_v4_26 : rI v4_26 := by rw [ev4_26]; exact hr3
      refine lv_iinc (v := iI v4_26) (lv' := [(4, .int (iI v4_26)), (3, .int (iI v3_25)), (0, .ref (sk_ad G 158))]) hx hb (okX12_waits (26, .iinc 4 (-1), 3) (List.mem_of_getElem? (i := 19) rfl)) hl (k := 2) rfl (by rw [ev4_26]; exact iI_add _ _) (by decide) rfl (fun ls hl => ?_)
      refine lv_goto (tgt := 7) hx hb (okX12_waits (29, .goto (-22), 3) (List.mem_of_getElem? (i := 20) rfl)) (by decide) ?_
      exact (hX_7 v3_25 v4_26 (up I 174 v4 (iand v3 3))).1 hM hr_v3_25 hr_v4_26 H locs ls hw (lv_sub hl [2, 1, 0] rfl)
  unfold M_Mo_waits at hM
  intro H locs hw
  refine lv_iload_n hx hb (okX12_waits (0, .iload_n 1, 1) (List.mem_of_getElem? (i := 0) rfl)) rfl (lv_at hl 1 rfl) ?_
  refine lv_istore_n (lv' := [(3, .int (iI p1)), (0, .ref (sk_ad G 158)), (1, .int (iI p1)), (2, .int (iI p2))]) hx hb (okX12_waits (1, .istore_n 3, 1) (List.mem_of_getElem? (i := 1) rfl)) rfl hl (by decide) rfl (fun ls hl => ?_)
  refine lv_iload_n hx hb (okX12_waits (2, .iload_n 2, 1) (List.mem_of_getElem? (i := 2) rfl)) rfl (lv_at hl 3 rfl) ?_
  refine lv_iconst (v := iI 1) hx hb (okX12_waits (3, .iconst 1, 1) (List.mem_of_getElem? (i := 3) rfl)) rfl ?_
  refine sk_isub hx hb (okX12_waits (4, .isub, 1) (List.mem_of_getElem? (i := 4) rfl)) ?_
  obtain ⟨hr1, hM⟩ := hM
  refine sk_nm (fun v4_5 ev4_5 => ?_)
  have hM := hM v4_5 ev4_5
  have hr_v4_5 : rI v4_5 := by rw [ev4_5]; exact hr1
  refine lv_istore (lv' := [(4, .int (iI v4_5)), (3, .int (iI p1)), (0, .ref (sk_ad G 158)), (1, .int (iI p1)), (2, .int (iI p2))]) hx hb (okX12_waits (5, .istore 4, 2) (List.mem_of_getElem? (i := 5) rfl)) hl (by decide) rfl (fun ls hl => ?_)
  exact hJ_7 p1 v4_5 I hr_p1 hr_v4_5 hM H locs ls hw (lv_sub hl [2, 1, 0] rfl)
def rmX12_part : Room := { frames := 4, cells := 0, slots := 0, locals := 227 }
set_option maxHeartbeats 4000000 in
set_option maxRecDepth 100000 in
theorem c_Mo_part (l : Launch) (G : sk_G) {Q : Int → sk_S → Prop} {I : sk_S} (hM : M_Mo_part Q I) : Met l yX12_part wsX12_part rmX12_part (va_Pc [.ref (sk_ad G 158)] (sk_U G 198 sk_t I)) (sk_Qi G 198 sk_t Q) 0 0 (sk_A G) := by
  refine Met.ofW (cc := cX12_part) (maxL := 4) (ret := (some .int)) (by decide) rfl ?_
  intro p e s m args below meth c s₁ B hml hv
  obtain ⟨rfl, hU, hK⟩ := hv
  have hx := B.exec
  have hb := B.bytes
  have hr0 := B.returns
  have hts := atoms_spec (ws := wsX12_part) B.pre
  have hown : s.vm.findClass RX12 = some m.cls := findClass_of_methodNamed B.named
  have hlocks := B.notSynchronized
  have S : CallFix p m c cX12_part 4 s ([.ref (sk_ad G 158)].toArray) wsX12_part RX12 := ⟨hx, hb, hml, hown, hts⟩
  have hL0 := hts (.fieldLink RX12 65 "SkyLightsModel" "manyOf" "[I") (by decide +kernel)
  have hL1 := hts (.fieldLink RX12 89 "SkyLightsModel" "before" "[I") (by decide +kernel)
  have hL2 := hts (.fieldLink RX12 59 "SkyLightsModel" "wait" "[I") (by decide +kernel)
  have hI12 : ∀ w ∈ u_ws RX12 TX12 53, w ∈ wsX12_part := by decide +kernel
  have hw : sk_W G 198 sk_t I s s.heap [] := ⟨hU, va_S.rf⟩
  have hl := lv_entry ([.ref (sk_ad G 158)]) (n := 4) (Nat.le_of_ble_eq_true rfl)
  rw [lg_entry_eq]
  generalize (lg_sl ([.ref (sk_ad G 158)]) ++ List.replicate (4 - (lg_sl ([.ref (sk_ad G 158)])).length) Slot.unset).toArray = ls at hl ⊢
  have hl : lv_has ls 4 [(0, .ref (sk_ad G 158))] := hl
  suffices hgo : ∀ (H : Heap) (locs : List Loc), sk_W G 198 sk_t I s H locs → W p l e (headSpec wsX12_part rmX12_part).room s m ([.ref (sk_ad G 158)].toArray) below meth c H locs 0 0 (MQ below (sk_Qi G 198 sk_t Q) ([.ref (sk_ad G 158)].toArray) s 0 0 (sk_A G)) (F0 m 0 ls []) from hgo _ _ hw
  have hJ_128 : ∀ (v2 : Int) (I : sk_S), rI v2 → L_Mo_part_128 Q v2 I → ∀ (H : Heap) (locs : List Loc) (ls : Array Slot), sk_W G 198 sk_t I s H locs → lv_has ls 4 [(0, .ref (sk_ad G 158)), (2, .int (iI v2))] → W p l e (headSpec wsX12_part rmX12_part).room s m ([.ref (sk_ad G 158)].toArray) below meth c H locs 0 0 (MQ below (sk_Qi G 198 sk_t Q) ([.ref (sk_ad G 158)].toArray) s 0 0 (sk_A G)) (F0 m 128 ls []) := by
    intro v2 I hr_v2 hM H locs ls hw hl
    unfold L_Mo_part_128 at hM
    obtain ⟨X_128, hX_128⟩ : ∃ X : Int → sk_S → Prop, ∀ (v2 : Int) (I : sk_S), X v2 I ↔ (rI v2 → ∀ (H : Heap) (locs : List Loc) (ls : Array Slot), sk_W G 198 sk_t I s H locs → lv_has ls 4 [(0, .ref (sk_ad G 158)), (2, .int (iI v2))] → W p l e (headSpec wsX12_part rmX12_part).room s m ([.ref (sk_ad G 158)].toArray) below meth c H locs 0 0 (MQ below (sk_Qi G 198 sk_t Q) ([.ref (sk_ad G 158)].toArray) s 0 0 (sk_A G)) (F0 m 128 ls [])) := ⟨_, fun _ _ => Iff.rfl⟩
    refine (hX_128 v2 I).1 (hM X_128 (fun v2 I hM => (hX_128 v2 I).2 (fun hr_v2 H locs ls hw hl => ?_))) hr_v2 H locs ls hw hl
    refine lv_iload_n hx hb (okX12_part (128, .iload_n 2, 1) (List.mem_of_getElem? (i := 75) rfl)) rfl (lv_at hl 1 rfl) ?_
    refine lv_bipush (v := iI 10) hx hb (okX12_part (129, .bipush 10, 2) (List.mem_of_getElem? (i := 76) rfl)) (by decide +kernel) ?_
    refine sk_icmp_ge (tgt := 152) hx hb hr_v2 (by decide) (okX12_part (131, .if_icmp .ge 21, 3) (List.mem_of_getElem? (i := 77) rfl)) (by decide) (fun c131 => ?_) (fun c131 => ?_)
    · have hM := hM.1 c131
      refine lv_bipush (v := iI (-3)) hx hb (okX12_part (152, .bipush (-3), 2) (List.mem_of_getElem? (i := 88) rfl)) (by decide +kernel) ?_
      exact sk_iret hx hb hr0 hlocks hK hw (by decide) hM (okX12_part (154, .ireturn, 1) (List.mem_of_getElem? (i := 89) rfl))
    · have hM := hM.2 c131
      refine lv_aload_n hx hb (okX12_part (134, .aload_n 0, 1) (List.mem_of_getElem? (i := 78) rfl)) rfl (lv_at hl 0 rfl) ?_
      refine sk_getr (b := 174) S hK hw kdn_158 (kd_in kdn_158) (C := RX12) (T := TX12) (N := 53) rfl hI12 24 ⟨by decide, rfl, by decide, rfl⟩ rfl (k' := 24) rfl rfl (by decide +kernel) hL2 (okX12_part (135, .getfield 59, 3) (List.mem_of_getElem? (i := 79) rfl)) ?_
      refine lv_iload_n hx hb (okX12_part (138, .iload_n 2, 1) (List.mem_of_getElem? (i := 80) rfl)) rfl (lv_at hl 1 rfl) ?_
      refine lv_aload_n hx hb (okX12_part (139, .aload_n 0, 1) (List.mem_of_getElem? (i := 81) rfl)) rfl (lv_at hl 0 rfl) ?_
      refine sk_getr (b := 184) S hK hw kdn_158 (kd_in kdn_158) (C := RX12) (T := TX12) (N := 53) rfl hI12 34 ⟨by decide, rfl, by decide, rfl⟩ rfl (k' := 34) rfl rfl (by decide +kernel) hL1 (okX12_part (140, .getfield 89, 3) (List.mem_of_getElem? (i := 82) rfl)) ?_
      refine lv_iload_n hx hb (okX12_part (143, .iload_n 2, 1) (List.mem_of_getElem? (i := 83) rfl)) rfl (lv_at hl 1 rfl) ?_
      obtain ⟨hi14, hM⟩ := hM
      have hr15 := hw.1.2.2 184 v2
      refine sk_ild S hK hw kdn_184 (kd_in kdn_184) (by rw [lnn_184]; exact hi14) (okX12_part (144, .iaload, 1) (List.mem_of_getElem? (i := 84) rfl)) ?_
      obtain ⟨hi16, hM⟩ := hM
      refine sk_ist S hK hw kdn_174 (kd_in kdn_174) (by rw [lnn_174]; exact hi16) hr15 (okX12_part (145, .iastore, 1) (List.mem_of_getElem? (i := 85) rfl)) (fun H locs hw => ?_)
      obtain ⟨hr17, hM⟩ := hM
      obtain ⟨v2_146, ev2_146⟩ : ∃ y : Int, y = v2 + 1 := ⟨_, rfl⟩
      have hM := hM v2_146 ev2_146
      have hr_v2_146 : rI v2_146 := by rw [ev2_146]; exact hr17
      refine lv_iinc (v := iI v2_146) (lv' := [(2, .int (iI v2_146)), (0, .ref (sk_ad G 158))]) hx hb (okX12_part (146, .iinc 2 1, 3) (List.mem_of_getElem? (i := 86) rfl)) hl (k := 1) rfl (by rw [ev2_146]; exact iI_add _ _) (by decide) rfl (fun ls hl => ?_)
      refine lv_goto (tgt := 128) hx hb (okX12_part (149, .goto (-21), 3) (List.mem_of_getElem? (i := 87) rfl)) (by decide) ?_
      exact (hX_128 v2_146 (up I 174 v2 (I 184 v2))).1 hM hr_v2_146 H locs ls hw (lv_sub hl [1, 0] rfl)
  have hJ_126 : ∀ (I : sk_S), J_Mo_part_126 Q I → ∀ (H : Heap) (locs : List Loc) (ls : Array Slot), sk_W G 198 sk_t I s H locs → lv_has ls 4 [(0, .ref (sk_ad G 158))] → W p l e (headSpec wsX12_part rmX12_part).room s m ([.ref (sk_ad G 158)].toArray) below meth c H locs 0 0 (MQ below (sk_Qi G 198 sk_t Q) ([.ref (sk_ad G 158)].toArray) s 0 0 (sk_A G)) (F0 m 126 ls []) := by
    intro I hM H locs ls hw hl
    unfold J_Mo_part_126 at hM
    refine lv_iconst (v := iI 0) hx hb (okX12_part (126, .iconst 0, 1) (List.mem_of_getElem? (i := 73) rfl)) rfl ?_
    refine lv_istore_n (lv' := [(2, .int (iI 0)), (0, .ref (sk_ad G 158))]) hx hb (okX12_part (127, .istore_n 2, 1) (List.mem_of_getElem? (i := 74) rfl)) rfl hl (by decide) rfl (fun ls hl => ?_)
    exact hJ_128 0 I (by decide) hM H locs ls hw (lv_sub hl [1, 0] rfl)
  have hJ_70 : ∀ (v1 v2 : Int) (I : sk_S), rI v1 → rI v2 → L_Mo_part_70 v1 Q v2 I → ∀ (H : Heap) (locs : List Loc) (ls : Array Slot), sk_W G 198 sk_t I s H locs → lv_has ls 4 [(0, .ref (sk_ad G 158)), (1, .int (iI v1)), (2, .int (iI v2))] → W p l e (headSpec wsX12_part rmX12_part).room s m ([.ref (sk_ad G 158)].toArray) below meth c H locs 0 0 (MQ below (sk_Qi G 198 sk_t Q) ([.ref (sk_ad G 158)].toArray) s 0 0 (sk_A G)) (F0 m 70 ls []) := by
    intro v1 v2 I hr_v1 hr_v2 hM H locs ls hw hl
    unfold L_Mo_part_70 at hM
    obtain ⟨X_70, hX_70⟩ : ∃ X : Int → sk_S → Prop, ∀ (v2 : Int) (I : sk_S), X v2 I ↔ (rI v2 → ∀ (H : Heap) (locs : List Loc) (ls : Array Slot), sk_W G 198 sk_t I s H locs → lv_has ls 4 [(0, .ref (sk_ad G 158)), (1, .int (iI v1)), (2, .int (iI v2))] → W p l e (headSpec wsX12_part rmX12_part).room s m ([.ref (sk_ad G 158)].toArray) below meth c H locs 0 0 (MQ below (sk_Qi G 198 sk_t Q) ([.ref (sk_ad G 158)].toArray) s 0 0 (sk_A G)) (F0 m 70 ls [])) := ⟨_, fun _ _ => Iff.rfl⟩
    have hJ_120 : ∀ (v2 : Int) (I : sk_S), rI v2 → J_Mo_part_120 v1 v2 Q X_70 I → ∀ (H : Heap) (locs : List Loc) (ls : Array Slot), sk_W G 198 sk_t I s H locs → lv_has ls 4 [(0, .ref (sk_ad G 158)), (1, .int (iI v1)), (2, .int (iI v2))] → W p l e (headSpec wsX12_part rmX12_part).room s m ([.ref (sk_ad G 158)].toArray) below meth c H locs 0 0 (MQ below (sk_Qi G 198 sk_t Q) ([.ref (sk_ad G 158)].toArray) s 0 0 (sk_A G)) (F0 m 120 ls []) := by
      intro v2 I hr_v2 hM H locs ls hw hl
      unfold J_Mo_part_120 at hM
      obtain ⟨hr13, hM⟩ := hM
      obtain ⟨v2_120, ev2_120⟩ : ∃ y : Int, y = v2 + 1 := ⟨_, rfl⟩
      have hM := hM v2_120 ev2_120
      have hr_v2_120 : rI v2_120 := by rw [ev2_120]; exact hr13
      refine lv_iinc (v := iI v2_120) (lv' := [(2, .int (iI v2_120)), (0, .ref (sk_ad G 158)), (1, .int (iI v1))]) hx hb (okX12_part (120, .iinc 2 1, 3) (List.mem_of_getElem? (i := 71) rfl)) hl (k := 2) rfl (by rw [ev2_120]; exact iI_add _ _) (by decide) rfl (fun ls hl => ?_)
      refine lv_goto (tgt := 70) hx hb (okX12_part (123, .goto (-53), 3) (List.mem_of_getElem? (i := 72) rfl)) (by decide) ?_
      exact (hX_70 v2_120 I).1 hM hr_v2_120 H locs ls hw (lv_sub hl [1, 2, 0] rfl)
    have hJ_78 : ∀ (v2 v3 : Int) (I : sk_S), rI v2 → rI v3 → L_Mo_part_78 v1 v2 Q X_70 v3 I → ∀ (H : Heap) (locs : List Loc) (ls : Array Slot), sk_W G 198 sk_t I s H locs → lv_has ls 4 [(0, .ref (sk_ad G 158)), (1, .int (iI v1)), (2, .int (iI v2)), (3, .int (iI v3))] → W p l e (headSpec wsX12_part rmX12_part).room s m ([.ref (sk_ad G 158)].toArray) below meth c H locs 0 0 (MQ below (sk_Qi G 198 sk_t Q) ([.ref (sk_ad G 158)].toArray) s 0 0 (sk_A G)) (F0 m 78 ls []) := by
      intro v2 v3 I hr_v2 hr_v3 hM H locs ls hw hl
      unfold L_Mo_part_78 at hM
      obtain ⟨X_78, hX_78⟩ : ∃ X : Int → sk_S → Prop, ∀ (v3 : Int) (I : sk_S), X v3 I ↔ (rI v3 → ∀ (H : Heap) (locs : List Loc) (ls : Array Slot), sk_W G 198 sk_t I s H locs → lv_has ls 4 [(0, .ref (sk_ad G 158)), (1, .int (iI v1)), (2, .int (iI v2)), (3, .int (iI v3))] → W p l e (headSpec wsX12_part rmX12_part).room s m ([.ref (sk_ad G 158)].toArray) below meth c H locs 0 0 (MQ below (sk_Qi G 198 sk_t Q) ([.ref (sk_ad G 158)].toArray) s 0 0 (sk_A G)) (F0 m 78 ls [])) := ⟨_, fun _ _ => Iff.rfl⟩
      have hJ_114 : ∀ (v3 : Int) (I : sk_S), rI v3 → J_Mo_part_114 v1 v2 v3 Q X_70 X_78 I → ∀ (H : Heap) (locs : List Loc) (ls : Array Slot), sk_W G 198 sk_t I s H locs → lv_has ls 4 [(0, .ref (sk_ad G 158)), (1, .int (iI v1)), (2, .int (iI v2)), (3, .int (iI v3))] → W p l e (headSpec wsX12_part rmX12_part).room s m ([.ref (sk_ad G 158)].toArray) below meth c H locs 0 0 (MQ below (sk_Qi G 198 sk_t Q) ([.ref (sk_ad G 158)].toArray) s 0 0 (sk_A G)) (F0 m 114 ls []) := by
        intro v3 I hr_v3 hM H locs ls hw hl
        unfold J_Mo_part_114 at hM
        obtain ⟨hr12, hM⟩ := hM
        obtain ⟨v3_114, ev3_114⟩ : ∃ y : Int, y = v3 + 1 := ⟨_, rfl⟩
        have hM := hM v3_114 ev3_114
        have hr_v3_114 : rI v3_114 := by rw [ev3_114]; exact hr12
        refine lv_iinc (v := iI v3_114) (lv' := [(3, .int (iI v3_114)), (0, .ref (sk_ad G 158)), (1, .int (iI v1)), (2, .int (iI v2))]) hx hb (okX12_part (114, .iinc 3 1, 3) (List.mem_of_getElem? (i := 69) rfl)) hl (k := 3) rfl (by rw [ev3_114]; exact iI_add _ _) (by decide) rfl (fun ls hl => ?_)
        refine lv_goto (tgt := 78) hx hb (okX12_part (117, .goto (-39), 3) (List.mem_of_getElem? (i := 70) rfl)) (by decide) ?_
        exact (hX_78 v3_114 I).1 hM hr_v3_114 H locs ls hw (lv_sub hl [1, 2, 3, 0] rfl)
      refine (hX_78 v3 I).1 (hM X_78 (fun v3 I hM => (hX_78 v3 I).2 (fun hr_v3 H locs ls hw hl => ?_))) hr_v3 H locs ls hw hl
      refine lv_iload_n hx hb (okX12_part (78, .iload_n 3, 1) (List.mem_of_getElem? (i := 47) rfl)) rfl (lv_at hl 3 rfl) ?_
      refine lv_iconst (v := iI 1) hx hb (okX12_part (79, .iconst 1, 1) (List.mem_of_getElem? (i := 48) rfl)) rfl ?_
      refine lv_iconst (v := iI 2) hx hb (okX12_part (80, .iconst 2, 1) (List.mem_of_getElem? (i := 49) rfl)) rfl ?_
      refine lv_iload_n hx hb (okX12_part (81, .iload_n 1, 1) (List.mem_of_getElem? (i := 50) rfl)) rfl (lv_at hl 1 rfl) ?_
      refine sk_imul hx hb (okX12_part (82, .imul, 1) (List.mem_of_getElem? (i := 51) rfl)) ?_
      refine sk_ishl hx hb (okX12_part (83, .ishl, 1) (List.mem_of_getElem? (i := 52) rfl)) ?_
      refine sk_icmp_ge (tgt := 120) hx hb hr_v3 (rI_of _) (okX12_part (84, .if_icmp .ge 36, 3) (List.mem_of_getElem? (i := 53) rfl)) (by decide) (fun c84 => ?_) (fun c84 => ?_)
      · have hM := hM.1 c84
        exact hJ_120 v2 I hr_v2 hM H locs ls hw (lv_sub hl [0, 1, 2] rfl)
      · have hM := hM.2 c84
        refine lv_iload_n hx hb (okX12_part (87, .iload_n 3, 1) (List.mem_of_getElem? (i := 54) rfl)) rfl (lv_at hl 3 rfl) ?_
        refine sk_ci (sk_runS (As := [.int (iI v3)]) (rest := []) S (c_Mo_sumOf l G hr_v3 hM) sk_blind gX12_part_X12_sumOf rfl hdX12_sumOf ⟨⟨rfl, rfl⟩, Nat.le_of_ble_eq_true rfl, Nat.le_of_ble_eq_true rfl⟩ (sk_pre hK hw) rfl hl.1 rfl (Nat.le_of_ble_eq_true rfl) (okX12_part (88, .invokestatic 268, 3) (List.mem_of_getElem? (i := 55) rfl)) ⟨Nat.zero_le _, Nat.zero_le _⟩) hw (fun r_88 I_88 H locs hr_r_88 hM hw => ?_)
        refine lv_iload_n hx hb (okX12_part (91, .iload_n 2, 1) (List.mem_of_getElem? (i := 56) rfl)) rfl (lv_at hl 2 rfl) ?_
        refine sk_icmp_eq (tgt := 98) hx hb hr_r_88 hr_v2 (okX12_part (92, .if_icmp .eq 6, 3) (List.mem_of_getElem? (i := 57) rfl)) (by decide) (fun c92 => ?_) (fun c92 => ?_)
        · have hM := hM.1 c92
          refine lv_aload_n hx hb (okX12_part (98, .aload_n 0, 1) (List.mem_of_getElem? (i := 59) rfl)) rfl (lv_at hl 0 rfl) ?_
          refine lv_iload_n hx hb (okX12_part (99, .iload_n 3, 1) (List.mem_of_getElem? (i := 60) rfl)) rfl (lv_at hl 3 rfl) ?_
          refine lv_iload_n hx hb (okX12_part (100, .iload_n 1, 1) (List.mem_of_getElem? (i := 61) rfl)) rfl (lv_at hl 1 rfl) ?_
          refine sk_cv (sk_runV (a := 158) (C := RX12) (As := [.int (iI v3), .int (iI v1)]) (rest := []) S (c_Mo_waits l G hr_v3 hr_v1 hM) sk_blind gX12_part_X12_waits rfl hdX12_waits ⟨⟨rfl, rfl⟩, Nat.le_of_ble_eq_true rfl, Nat.le_of_ble_eq_true rfl⟩ (sk_recv hK hw kdn_158 (kd_in kdn_158) (by decide) rfl) (sk_pre hK hw) rfl hl.1 rfl (Nat.le_of_ble_eq_true rfl) (okX12_part (101, .invokevirtual 271, 3) (List.mem_of_getElem? (i := 62) rfl)) ⟨Nat.zero_le _, Nat.zero_le _⟩) hw (fun I_101 H locs hM hw => ?_)
          refine lv_aload_n hx hb (okX12_part (104, .aload_n 0, 1) (List.mem_of_getElem? (i := 63) rfl)) rfl (lv_at hl 0 rfl) ?_
          refine lv_iconst (v := iI 0) hx hb (okX12_part (105, .iconst 0, 1) (List.mem_of_getElem? (i := 64) rfl)) rfl ?_
          refine sk_ci (sk_runV (a := 158) (C := RX12) (As := [.int (iI 0)]) (rest := []) S (c_Mo_isClean l G (by decide) hM) sk_blind gX12_part_X12_isClean rfl hdX12_isClean ⟨⟨rfl, rfl⟩, Nat.le_of_ble_eq_true rfl, Nat.le_of_ble_eq_true rfl⟩ (sk_recv hK hw kdn_158 (kd_in kdn_158) (by decide) rfl) (sk_pre hK hw) rfl hl.1 rfl (Nat.le_of_ble_eq_true rfl) (okX12_part (106, .invokevirtual 265, 3) (List.mem_of_getElem? (i := 65) rfl)) ⟨Nat.zero_le _, Nat.zero_le _⟩) hw (fun r_106 I_106 H locs hr_r_106 hM hw => ?_)
          obtain ⟨hb_r_106, hM⟩ := hM
          refine sk_if_eq (tgt := 114) hx hb hr_r_106 (okX12_part (109, .ifCond .eq 5, 3) (List.mem_of_getElem? (i := 66) rfl)) (by decide) (fun c109 => ?_) (fun c109 => ?_)
          · have hM := hM.1 c109
            exact hJ_114 v3 I_106 hr_v3 hM H locs ls hw (lv_sub hl [0, 1, 2, 3] rfl)
          · have hM := hM.2 c109
            refine lv_iload_n hx hb (okX12_part (112, .iload_n 2, 1) (List.mem_of_getElem? (i := 67) rfl)) rfl (lv_at hl 2 rfl) ?_
            exact sk_iret hx hb hr0 hlocks hK hw hr_v2 hM (okX12_part (113, .ireturn, 1) (List.mem_of_getElem? (i := 68) rfl))
        · have hM := hM.2 c92
          refine lv_goto (tgt := 114) hx hb (okX12_part (95, .goto 19, 3) (List.mem_of_getElem? (i := 58) rfl)) (by decide) ?_
          exact hJ_114 v3 I_88 hr_v3 hM H locs ls hw (lv_sub hl [0, 1, 2, 3] rfl)
    refine (hX_70 v2 I).1 (hM X_70 (fun v2 I hM => (hX_70 v2 I).2 (fun hr_v2 H locs ls hw hl => ?_))) hr_v2 H locs ls hw hl
    refine lv_iload_n hx hb (okX12_part (70, .iload_n 2, 1) (List.mem_of_getElem? (i := 42) rfl)) rfl (lv_at hl 2 rfl) ?_
    refine lv_bipush (v := iI 18) hx hb (okX12_part (71, .bipush 18, 2) (List.mem_of_getElem? (i := 43) rfl)) (by decide +kernel) ?_
    refine sk_icmp_gt (tgt := 126) hx hb hr_v2 (by decide) (okX12_part (73, .if_icmp .gt 53, 3) (List.mem_of_getElem? (i := 44) rfl)) (by decide) (fun c73 => ?_) (fun c73 => ?_)
    · have hM := hM.1 c73
      exact hJ_126 I hM H locs ls hw (lv_sub hl [0] rfl)
    · have hM := hM.2 c73
      refine lv_iconst (v := iI 0) hx hb (okX12_part (76, .iconst 0, 1) (List.mem_of_getElem? (i := 45) rfl)) rfl ?_
      refine lv_istore_n (lv' := [(3, .int (iI 0)), (0, .ref (sk_ad G 158)), (1, .int (iI v1)), (2, .int (iI v2))]) hx hb (okX12_part (77, .istore_n 3, 1) (List.mem_of_getElem? (i := 46) rfl)) rfl hl (by decide) rfl (fun ls hl => ?_)
      exact hJ_78 v2 0 I hr_v2 (by decide) hM H locs ls hw (lv_sub hl [1, 2, 3, 0] rfl)
  have hJ_67 : ∀ (s0 : Int) (I : sk_S), rI s0 → J_Mo_part_67 s0 Q I → ∀ (H : Heap) (locs : List Loc) (ls : Array Slot), sk_W G 198 sk_t I s H locs → lv_has ls 4 [(0, .ref (sk_ad G 158))] → W p l e (headSpec wsX12_part rmX12_part).room s m ([.ref (sk_ad G 158)].toArray) below meth c H locs 0 0 (MQ below (sk_Qi G 198 sk_t Q) ([.ref (sk_ad G 158)].toArray) s 0 0 (sk_A G)) (F0 m 67 ls [.int (iI s0)]) := by
    intro s0 I hr_s0 hM H locs ls hw hl
    unfold J_Mo_part_67 at hM
    refine lv_istore_n (lv' := [(1, .int (iI s0)), (0, .ref (sk_ad G 158))]) hx hb (okX12_part (67, .istore_n 1, 1) (List.mem_of_getElem? (i := 39) rfl)) rfl hl (by decide) rfl (fun ls hl => ?_)
    refine lv_iconst (v := iI 0) hx hb (okX12_part (68, .iconst 0, 1) (List.mem_of_getElem? (i := 40) rfl)) rfl ?_
    refine lv_istore_n (lv' := [(2, .int (iI 0)), (1, .int (iI s0)), (0, .ref (sk_ad G 158))]) hx hb (okX12_part (69, .istore_n 2, 1) (List.mem_of_getElem? (i := 41) rfl)) rfl hl (by decide) rfl (fun ls hl => ?_)
    exact hJ_70 s0 0 I hr_s0 (by decide) hM H locs ls hw (lv_sub hl [2, 1, 0] rfl)
  have hJ_45 : ∀ (I : sk_S), J_Mo_part_45 Q I → ∀ (H : Heap) (locs : List Loc) (ls : Array Slot), sk_W G 198 sk_t I s H locs → lv_has ls 4 [(0, .ref (sk_ad G 158))] → W p l e (headSpec wsX12_part rmX12_part).room s m ([.ref (sk_ad G 158)].toArray) below meth c H locs 0 0 (MQ below (sk_Qi G 198 sk_t Q) ([.ref (sk_ad G 158)].toArray) s 0 0 (sk_A G)) (F0 m 45 ls []) := by
    intro I hM H locs ls hw hl
    unfold J_Mo_part_45 at hM
    refine lv_aload_n hx hb (okX12_part (45, .aload_n 0, 1) (List.mem_of_getElem? (i := 27) rfl)) rfl (lv_at hl 0 rfl) ?_
    refine sk_getr (b := 176) S hK hw kdn_158 (kd_in kdn_158) (C := RX12) (T := TX12) (N := 53) rfl hI12 26 ⟨by decide, rfl, by decide, rfl⟩ rfl (k' := 26) rfl rfl (by decide +kernel) hL0 (okX12_part (46, .getfield 65, 3) (List.mem_of_getElem? (i := 28) rfl)) ?_
    refine lv_iconst (v := iI 0) hx hb (okX12_part (49, .iconst 0, 1) (List.mem_of_getElem? (i := 29) rfl)) rfl ?_
    obtain ⟨hi8, hM⟩ := hM
    have hr9 := hw.1.2.2 176 0
    refine sk_ild S hK hw kdn_176 (kd_in kdn_176) (by rw [lnn_176]; exact hi8) (okX12_part (50, .iaload, 1) (List.mem_of_getElem? (i := 30) rfl)) ?_
    refine lv_bipush (v := iI 6) hx hb (okX12_part (51, .bipush 6, 2) (List.mem_of_getElem? (i := 31) rfl)) (by decide +kernel) ?_
    refine sk_icmp_ge (tgt := 65) hx hb hr9 (by decide) (okX12_part (53, .if_icmp .ge 12, 3) (List.mem_of_getElem? (i := 32) rfl)) (by decide) (fun c53 => ?_) (fun c53 => ?_)
    · have hM := hM.1 c53
      refine lv_bipush (v := iI 6) hx hb (okX12_part (65, .bipush 6, 2) (List.mem_of_getElem? (i := 38) rfl)) (by decide +kernel) ?_
      exact hJ_67 6 I (by decide) hM H locs ls hw (lv_sub hl [0] rfl)
    · have hM := hM.2 c53
      refine lv_aload_n hx hb (okX12_part (56, .aload_n 0, 1) (List.mem_of_getElem? (i := 33) rfl)) rfl (lv_at hl 0 rfl) ?_
      refine sk_getr (b := 176) S hK hw kdn_158 (kd_in kdn_158) (C := RX12) (T := TX12) (N := 53) rfl hI12 26 ⟨by decide, rfl, by decide, rfl⟩ rfl (k' := 26) rfl rfl (by decide +kernel) hL0 (okX12_part (57, .getfield 65, 3) (List.mem_of_getElem? (i := 34) rfl)) ?_
      refine lv_iconst (v := iI 0) hx hb (okX12_part (60, .iconst 0, 1) (List.mem_of_getElem? (i := 35) rfl)) rfl ?_
      obtain ⟨hi10, hM⟩ := hM
      have hr11 := hw.1.2.2 176 0
      refine sk_ild S hK hw kdn_176 (kd_in kdn_176) (by rw [lnn_176]; exact hi10) (okX12_part (61, .iaload, 1) (List.mem_of_getElem? (i := 36) rfl)) ?_
      refine lv_goto (tgt := 67) hx hb (okX12_part (62, .goto 5, 3) (List.mem_of_getElem? (i := 37) rfl)) (by decide) ?_
      exact hJ_67 (I 176 0) I hr11 hM H locs ls hw (lv_sub hl [0] rfl)
  have hJ_14 : ∀ (v1 : Int) (I : sk_S), rI v1 → L_Mo_part_14 Q v1 I → ∀ (H : Heap) (locs : List Loc) (ls : Array Slot), sk_W G 198 sk_t I s H locs → lv_has ls 4 [(0, .ref (sk_ad G 158)), (1, .int (iI v1))] → W p l e (headSpec wsX12_part rmX12_part).room s m ([.ref (sk_ad G 158)].toArray) below meth c H locs 0 0 (MQ below (sk_Qi G 198 sk_t Q) ([.ref (sk_ad G 158)].toArray) s 0 0 (sk_A G)) (F0 m 14 ls []) := by
    intro v1 I hr_v1 hM H locs ls hw hl
    unfold L_Mo_part_14 at hM
    obtain ⟨X_14, hX_14⟩ : ∃ X : Int → sk_S → Prop, ∀ (v1 : Int) (I : sk_S), X v1 I ↔ (rI v1 → ∀ (H : Heap) (locs : List Loc) (ls : Array Slot), sk_W G 198 sk_t I s H locs → lv_has ls 4 [(0, .ref (sk_ad G 158)), (1, .int (iI v1))] → W p l e (headSpec wsX12_part rmX12_part).room s m ([.ref (sk_ad G 158)].toArray) below meth c H locs 0 0 (MQ below (sk_Qi G 198 sk_t Q) ([.ref (sk_ad G 158)].toArray) s 0 0 (sk_A G)) (F0 m 14 ls [])) := ⟨_, fun _ _ => Iff.rfl⟩
    refine (hX_14 v1 I).1 (hM X_14 (fun v1 I hM => (hX_14 v1 I).2 (fun hr_v1 H locs ls hw hl => ?_))) hr_v1 H locs ls hw hl
    refine lv_iload_n hx hb (okX12_part (14, .iload_n 1, 1) (List.mem_of_getElem? (i := 9) rfl)) rfl (lv_at hl 1 rfl) ?_
    refine lv_bipush (v := iI 10) hx hb (okX12_part (15, .bipush 10, 2) (List.mem_of_getElem? (i := 10) rfl)) (by decide +kernel) ?_
    refine sk_icmp_ge (tgt := 45) hx hb hr_v1 (by decide) (okX12_part (17, .if_icmp .ge 28, 3) (List.mem_of_getElem? (i := 11) rfl)) (by decide) (fun c17 => ?_) (fun c17 => ?_)
    · have hM := hM.1 c17
      exact hJ_45 I hM H locs ls hw (lv_sub hl [0] rfl)
    · have hM := hM.2 c17
      refine lv_aload_n hx hb (okX12_part (20, .aload_n 0, 1) (List.mem_of_getElem? (i := 12) rfl)) rfl (lv_at hl 0 rfl) ?_
      refine sk_getr (b := 184) S hK hw kdn_158 (kd_in kdn_158) (C := RX12) (T := TX12) (N := 53) rfl hI12 34 ⟨by decide, rfl, by decide, rfl⟩ rfl (k' := 34) rfl rfl (by decide +kernel) hL1 (okX12_part (21, .getfield 89, 3) (List.mem_of_getElem? (i := 13) rfl)) ?_
      refine lv_iload_n hx hb (okX12_part (24, .iload_n 1, 1) (List.mem_of_getElem? (i := 14) rfl)) rfl (lv_at hl 1 rfl) ?_
      refine lv_aload_n hx hb (okX12_part (25, .aload_n 0, 1) (List.mem_of_getElem? (i := 15) rfl)) rfl (lv_at hl 0 rfl) ?_
      refine sk_getr (b := 174) S hK hw kdn_158 (kd_in kdn_158) (C := RX12) (T := TX12) (N := 53) rfl hI12 24 ⟨by decide, rfl, by decide, rfl⟩ rfl (k' := 24) rfl rfl (by decide +kernel) hL2 (okX12_part (26, .getfield 59, 3) (List.mem_of_getElem? (i := 16) rfl)) ?_
      refine lv_iload_n hx hb (okX12_part (29, .iload_n 1, 1) (List.mem_of_getElem? (i := 17) rfl)) rfl (lv_at hl 1 rfl) ?_
      obtain ⟨hi3, hM⟩ := hM
      have hr4 := hw.1.2.2 174 v1
      refine sk_ild S hK hw kdn_174 (kd_in kdn_174) (by rw [lnn_174]; exact hi3) (okX12_part (30, .iaload, 1) (List.mem_of_getElem? (i := 18) rfl)) ?_
      obtain ⟨hi5, hM⟩ := hM
      refine sk_ist S hK hw kdn_184 (kd_in kdn_184) (by rw [lnn_184]; exact hi5) hr4 (okX12_part (31, .iastore, 1) (List.mem_of_getElem? (i := 19) rfl)) (fun H locs hw => ?_)
      refine lv_aload_n hx hb (okX12_part (32, .aload_n 0, 1) (List.mem_of_getElem? (i := 20) rfl)) rfl (lv_at hl 0 rfl) ?_
      refine sk_getr (b := 174) S hK hw kdn_158 (kd_in kdn_158) (C := RX12) (T := TX12) (N := 53) rfl hI12 24 ⟨by decide, rfl, by decide, rfl⟩ rfl (k' := 24) rfl rfl (by decide +kernel) hL2 (okX12_part (33, .getfield 59, 3) (List.mem_of_getElem? (i := 21) rfl)) ?_
      refine lv_iload_n hx hb (okX12_part (36, .iload_n 1, 1) (List.mem_of_getElem? (i := 22) rfl)) rfl (lv_at hl 1 rfl) ?_
      refine lv_iconst (v := iI 0) hx hb (okX12_part (37, .iconst 0, 1) (List.mem_of_getElem? (i := 23) rfl)) rfl ?_
      obtain ⟨hi6, hM⟩ := hM
      refine sk_ist S hK hw kdn_174 (kd_in kdn_174) (by rw [lnn_174]; exact hi6) (by decide) (okX12_part (38, .iastore, 1) (List.mem_of_getElem? (i := 24) rfl)) (fun H locs hw => ?_)
      obtain ⟨hr7, hM⟩ := hM
      obtain ⟨v1_39, ev1_39⟩ : ∃ y : Int, y = v1 + 1 := ⟨_, rfl⟩
      have hM := hM v1_39 ev1_39
      have hr_v1_39 : rI v1_39 := by rw [ev1_39]; exact hr7
      refine lv_iinc (v := iI v1_39) (lv' := [(1, .int (iI v1_39)), (0, .ref (sk_ad G 158))]) hx hb (okX12_part (39, .iinc 1 1, 3) (List.mem_of_getElem? (i := 25) rfl)) hl (k := 1) rfl (by rw [ev1_39]; exact iI_add _ _) (by decide) rfl (fun ls hl => ?_)
      refine lv_goto (tgt := 14) hx hb (okX12_part (42, .goto (-28), 3) (List.mem_of_getElem? (i := 26) rfl)) (by decide) ?_
      exact (hX_14 v1_39 (up (up I 184 v1 (I 174 v1)) 174 v1 0)).1 hM hr_v1_39 H locs ls hw (lv_sub hl [1, 0] rfl)
  unfold M_Mo_part at hM
  intro H locs hw
  refine lv_aload_n hx hb (okX12_part (0, .aload_n 0, 1) (List.mem_of_getElem? (i := 0) rfl)) rfl (lv_at hl 0 rfl) ?_
  refine sk_getr (b := 176) S hK hw kdn_158 (kd_in kdn_158) (C := RX12) (T := TX12) (N := 53) rfl hI12 26 ⟨by decide, rfl, by decide, rfl⟩ rfl (k' := 26) rfl rfl (by decide +kernel) hL0 (okX12_part (1, .getfield 65, 3) (List.mem_of_getElem? (i := 1) rfl)) ?_
  refine lv_iconst (v := iI 0) hx hb (okX12_part (4, .iconst 0, 1) (List.mem_of_getElem? (i := 2) rfl)) rfl ?_
  obtain ⟨hi1, hM⟩ := hM
  have hr2 := hw.1.2.2 176 0
  refine sk_ild S hK hw kdn_176 (kd_in kdn_176) (by rw [lnn_176]; exact hi1) (okX12_part (5, .iaload, 1) (List.mem_of_getElem? (i := 3) rfl)) ?_
  refine sk_if_ne (tgt := 12) hx hb hr2 (okX12_part (6, .ifCond .ne 6, 3) (List.mem_of_getElem? (i := 4) rfl)) (by decide) (fun c6 => ?_) (fun c6 => ?_)
  · have hM := hM.1 c6
    refine lv_iconst (v := iI 0) hx hb (okX12_part (12, .iconst 0, 1) (List.mem_of_getElem? (i := 7) rfl)) rfl ?_
    refine lv_istore_n (lv' := [(1, .int (iI 0)), (0, .ref (sk_ad G 158))]) hx hb (okX12_part (13, .istore_n 1, 1) (List.mem_of_getElem? (i := 8) rfl)) rfl hl (by decide) rfl (fun ls hl => ?_)
    exact hJ_14 0 I (by decide) hM H locs ls hw (lv_sub hl [1, 0] rfl)
  · have hM := hM.2 c6
    refine lv_bipush (v := iI (-3)) hx hb (okX12_part (9, .bipush (-3), 2) (List.mem_of_getElem? (i := 5) rfl)) (by decide +kernel) ?_
    exact sk_iret hx hb hr0 hlocks hK hw (by decide) hM (okX12_part (11, .ireturn, 1) (List.mem_of_getElem? (i := 6) rfl))
def rmX12_pass : Room := { frames := 2, cells := 0, slots := 0, locals := 112 }
set_option maxHeartbeats 4000000 in
set_option maxRecDepth 100000 in
theorem c_Mo_pass (l : Launch) (G : sk_G) {p1 p2 p3 : Int} (hr_p1 : rI p1) (hr_p2 : rI p2) (hr_p3 : rI p3) {Q : Int → sk_S → Prop} {I : sk_S} (hM : M_Mo_pass p1 p2 p3 Q I) : Met l yX12_pass wsX12_pass rmX12_pass (va_Pc [.ref (sk_ad G 158), .int (iI p1), .int (iI p2), .int (iI p3)] (sk_U G 198 sk_t I)) (sk_Qi G 198 sk_t Q) 0 0 (sk_A G) := by
  refine Met.ofW (cc := cX12_pass) (maxL := 7) (ret := (some .int)) (by decide) rfl ?_
  intro p e s m args below meth c s₁ B hml hv
  obtain ⟨rfl, hU, hK⟩ := hv
  have hx := B.exec
  have hb := B.bytes
  have hr0 := B.returns
  have hts := atoms_spec (ws := wsX12_pass) B.pre
  have hown : s.vm.findClass RX12 = some m.cls := findClass_of_methodNamed B.named
  have hlocks := B.notSynchronized
  have S : CallFix p m c cX12_pass 7 s ([.ref (sk_ad G 158), .int (iI p1), .int (iI p2), .int (iI p3)].toArray) wsX12_pass RX12 := ⟨hx, hb, hml, hown, hts⟩
  have hL0 := hts (.constantLong RX12 251 (30)) (by decide +kernel)
  have hL1 := hts (.fieldLink RX12 19 "SkyLightsModel" "size" "[I") (by decide +kernel)
  have hL2 := hts (.fieldLink RX12 140 "SkyLightsModel" "flyers" "I") (by decide +kernel)
  have hL3 := hts (.fieldLink RX12 68 "SkyLightsModel" "goes" "[I") (by decide +kernel)
  have hL4 := hts (.fieldLink RX12 77 "SkyLightsModel" "goesTo" "[I") (by decide +kernel)
  have hI12 : ∀ w ∈ u_ws RX12 TX12 53, w ∈ wsX12_pass := by decide +kernel
  have hw : sk_W G 198 sk_t I s s.heap [] := ⟨hU, va_S.rf⟩
  have hl := lv_entry ([.ref (sk_ad G 158), .int (iI p1), .int (iI p2), .int (iI p3)]) (n := 7) (Nat.le_of_ble_eq_true rfl)
  rw [lg_entry_eq]
  generalize (lg_sl ([.ref (sk_ad G 158), .int (iI p1), .int (iI p2), .int (iI p3)]) ++ List.replicate (7 - (lg_sl ([.ref (sk_ad G 158), .int (iI p1), .int (iI p2), .int (iI p3)])).length) Slot.unset).toArray = ls at hl ⊢
  have hl : lv_has ls 7 [(0, .ref (sk_ad G 158)), (1, .int (iI p1)), (2, .int (iI p2)), (3, .int (iI p3))] := hl
  suffices hgo : ∀ (H : Heap) (locs : List Loc), sk_W G 198 sk_t I s H locs → W p l e (headSpec wsX12_pass rmX12_pass).room s m ([.ref (sk_ad G 158), .int (iI p1), .int (iI p2), .int (iI p3)].toArray) below meth c H locs 0 0 (MQ below (sk_Qi G 198 sk_t Q) ([.ref (sk_ad G 158), .int (iI p1), .int (iI p2), .int (iI p3)].toArray) s 0 0 (sk_A G)) (F0 m 0 ls []) from hgo _ _ hw
  have hJ_110 : ∀ (v4 v5 v6 : Int) (I : sk_S), rI v4 → rI v5 → rI v6 → L_Mo_pass_110 v4 v5 Q v6 I → ∀ (H : Heap) (locs : List Loc) (ls : Array Slot), sk_W G 198 sk_t I s H locs → lv_has ls 7 [(0, .ref (sk_ad G 158)), (4, .int (iI v4)), (5, .int (iI v5)), (6, .int (iI v6))] → W p l e (headSpec wsX12_pass rmX12_pass).room s m ([.ref (sk_ad G 158), .int (iI p1), .int (iI p2), .int (iI p3)].toArray) below meth c H locs 0 0 (MQ below (sk_Qi G 198 sk_t Q) ([.ref (sk_ad G 158), .int (iI p1), .int (iI p2), .int (iI p3)].toArray) s 0 0 (sk_A G)) (F0 m 110 ls []) := by
    intro v4 v5 v6 I hr_v4 hr_v5 hr_v6 hM H locs ls hw hl
    unfold L_Mo_pass_110 at hM
    obtain ⟨X_110, hX_110⟩ : ∃ X : Int → sk_S → Prop, ∀ (v6 : Int) (I : sk_S), X v6 I ↔ (rI v6 → ∀ (H : Heap) (locs : List Loc) (ls : Array Slot), sk_W G 198 sk_t I s H locs → lv_has ls 7 [(0, .ref (sk_ad G 158)), (4, .int (iI v4)), (5, .int (iI v5)), (6, .int (iI v6))] → W p l e (headSpec wsX12_pass rmX12_pass).room s m ([.ref (sk_ad G 158), .int (iI p1), .int (iI p2), .int (iI p3)].toArray) below meth c H locs 0 0 (MQ below (sk_Qi G 198 sk_t Q) ([.ref (sk_ad G 158), .int (iI p1), .int (iI p2), .int (iI p3)].toArray) s 0 0 (sk_A G)) (F0 m 110 ls [])) := ⟨_, fun _ _ => Iff.rfl⟩
    refine (hX_110 v6 I).1 (hM X_110 (fun v6 I hM => (hX_110 v6 I).2 (fun hr_v6 H locs ls hw hl => ?_))) hr_v6 H locs ls hw hl
    refine lv_iload hx hb (okX12_pass (110, .iload 6, 2) (List.mem_of_getElem? (i := 61) rfl)) (lv_at hl 3 rfl) ?_
    refine lv_iload hx hb (okX12_pass (112, .iload 4, 2) (List.mem_of_getElem? (i := 62) rfl)) (lv_at hl 1 rfl) ?_
    refine sk_icmp_ge (tgt := 137) hx hb hr_v6 hr_v4 (okX12_pass (114, .if_icmp .ge 23, 3) (List.mem_of_getElem? (i := 63) rfl)) (by decide) (fun c114 => ?_) (fun c114 => ?_)
    · have hM := hM.1 c114
      refine lv_iload hx hb (okX12_pass (137, .iload 5, 2) (List.mem_of_getElem? (i := 74) rfl)) (lv_at hl 2 rfl) ?_
      exact sk_iret hx hb hr0 hlocks hK hw hr_v5 hM (okX12_pass (139, .ireturn, 1) (List.mem_of_getElem? (i := 75) rfl))
    · have hM := hM.2 c114
      refine lv_aload_n hx hb (okX12_pass (117, .aload_n 0, 1) (List.mem_of_getElem? (i := 64) rfl)) rfl (lv_at hl 0 rfl) ?_
      refine sk_getr (b := 177) S hK hw kdn_158 (kd_in kdn_158) (C := RX12) (T := TX12) (N := 53) rfl hI12 27 ⟨by decide, rfl, by decide, rfl⟩ rfl (k' := 27) rfl rfl (by decide +kernel) hL3 (okX12_pass (118, .getfield 68, 3) (List.mem_of_getElem? (i := 65) rfl)) ?_
      refine lv_iload hx hb (okX12_pass (121, .iload 6, 2) (List.mem_of_getElem? (i := 66) rfl)) (lv_at hl 3 rfl) ?_
      refine lv_aload_n hx hb (okX12_pass (123, .aload_n 0, 1) (List.mem_of_getElem? (i := 67) rfl)) rfl (lv_at hl 0 rfl) ?_
      refine sk_getr (b := 180) S hK hw kdn_158 (kd_in kdn_158) (C := RX12) (T := TX12) (N := 53) rfl hI12 30 ⟨by decide, rfl, by decide, rfl⟩ rfl (k' := 30) rfl rfl (by decide +kernel) hL4 (okX12_pass (124, .getfield 77, 3) (List.mem_of_getElem? (i := 68) rfl)) ?_
      refine lv_iload hx hb (okX12_pass (127, .iload 6, 2) (List.mem_of_getElem? (i := 69) rfl)) (lv_at hl 3 rfl) ?_
      obtain ⟨hi7, hM⟩ := hM
      have hr8 := hw.1.2.2 180 v6
      refine sk_ild S hK hw kdn_180 (kd_in kdn_180) (by rw [lnn_180]; exact hi7) (okX12_pass (129, .iaload, 1) (List.mem_of_getElem? (i := 70) rfl)) ?_
      obtain ⟨hi9, hM⟩ := hM
      refine sk_ist S hK hw kdn_177 (kd_in kdn_177) (by rw [lnn_177]; exact hi9) hr8 (okX12_pass (130, .iastore, 1) (List.mem_of_getElem? (i := 71) rfl)) (fun H locs hw => ?_)
      obtain ⟨hr10, hM⟩ := hM
      obtain ⟨v6_131, ev6_131⟩ : ∃ y : Int, y = v6 + 1 := ⟨_, rfl⟩
      have hM := hM v6_131 ev6_131
      have hr_v6_131 : rI v6_131 := by rw [ev6_131]; exact hr10
      refine lv_iinc (v := iI v6_131) (lv' := [(6, .int (iI v6_131)), (0, .ref (sk_ad G 158)), (4, .int (iI v4)), (5, .int (iI v5))]) hx hb (okX12_pass (131, .iinc 6 1, 3) (List.mem_of_getElem? (i := 72) rfl)) hl (k := 3) rfl (by rw [ev6_131]; exact iI_add _ _) (by decide) rfl (fun ls hl => ?_)
      refine lv_goto (tgt := 110) hx hb (okX12_pass (134, .goto (-24), 3) (List.mem_of_getElem? (i := 73) rfl)) (by decide) ?_
      exact (hX_110 v6_131 (up I 177 v6 (I 180 v6))).1 hM hr_v6_131 H locs ls hw (lv_sub hl [1, 2, 3, 0] rfl)
  have hJ_86 : ∀ (v1 v2 v3 v4 s0 s1 : Int) (I : sk_S), rI v1 → rI v2 → rI v3 → rI v4 → rI s0 → rI s1 → J_Mo_pass_86 v1 v2 v3 v4 s0 s1 Q I → ∀ (H : Heap) (locs : List Loc) (ls : Array Slot), sk_W G 198 sk_t I s H locs → lv_has ls 7 [(0, .ref (sk_ad G 158)), (1, .int (iI v1)), (2, .int (iI v2)), (3, .int (iI v3)), (4, .int (iI v4))] → W p l e (headSpec wsX12_pass rmX12_pass).room s m ([.ref (sk_ad G 158), .int (iI p1), .int (iI p2), .int (iI p3)].toArray) below meth c H locs 0 0 (MQ below (sk_Qi G 198 sk_t Q) ([.ref (sk_ad G 158), .int (iI p1), .int (iI p2), .int (iI p3)].toArray) s 0 0 (sk_A G)) (F0 m 86 ls [.int (iI s1), .int (iI s0)]) := by
    intro v1 v2 v3 v4 s0 s1 I hr_v1 hr_v2 hr_v3 hr_v4 hr_s0 hr_s1 hM H locs ls hw hl
    unfold J_Mo_pass_86 at hM
    refine sk_icmp_eq (tgt := 92) hx hb hr_s0 hr_s1 (okX12_pass (86, .if_icmp .eq 6, 3) (List.mem_of_getElem? (i := 46) rfl)) (by decide) (fun c86 => ?_) (fun c86 => ?_)
    · have hM := hM.1 c86
      refine lv_aload_n hx hb (okX12_pass (92, .aload_n 0, 1) (List.mem_of_getElem? (i := 49) rfl)) rfl (lv_at hl 0 rfl) ?_
      refine lv_iconst (v := iI 0) hx hb (okX12_pass (93, .iconst 0, 1) (List.mem_of_getElem? (i := 50) rfl)) rfl ?_
      refine lv_iload_n hx hb (okX12_pass (94, .iload_n 1, 1) (List.mem_of_getElem? (i := 51) rfl)) rfl (lv_at hl 1 rfl) ?_
      refine lv_iload_n hx hb (okX12_pass (95, .iload_n 2, 1) (List.mem_of_getElem? (i := 52) rfl)) rfl (lv_at hl 2 rfl) ?_
      refine lv_iload_n hx hb (okX12_pass (96, .iload_n 3, 1) (List.mem_of_getElem? (i := 53) rfl)) rfl (lv_at hl 3 rfl) ?_
      refine sk_cv (sk_runV (a := 158) (C := RX12) (As := [.int (iI 0), .int (iI v1), .int (iI v2), .int (iI v3)]) (rest := []) S (c_Mo_begins l G (by decide) hr_v1 hr_v2 hr_v3 hM) sk_blind gX12_pass_X12_begins rfl hdX12_begins ⟨⟨rfl, rfl⟩, Nat.le_of_ble_eq_true rfl, Nat.le_of_ble_eq_true rfl⟩ (sk_recv hK hw kdn_158 (kd_in kdn_158) (by decide) rfl) (sk_pre hK hw) rfl hl.1 rfl (Nat.le_of_ble_eq_true rfl) (okX12_pass (97, .invokevirtual 253, 3) (List.mem_of_getElem? (i := 54) rfl)) ⟨Nat.zero_le _, Nat.zero_le _⟩) hw (fun I_97 H locs hM hw => ?_)
      refine lv_aload_n hx hb (okX12_pass (100, .aload_n 0, 1) (List.mem_of_getElem? (i := 55) rfl)) rfl (lv_at hl 0 rfl) ?_
      refine lv_iconst (v := iI 0) hx hb (okX12_pass (101, .iconst 0, 1) (List.mem_of_getElem? (i := 56) rfl)) rfl ?_
      refine sk_ci (sk_runV (a := 158) (C := RX12) (As := [.int (iI 0)]) (rest := []) S (c_Mo_assigns l G (by decide) hM) sk_blind gX12_pass_X12_assigns rfl hdX12_assigns ⟨⟨rfl, rfl⟩, Nat.le_of_ble_eq_true rfl, Nat.le_of_ble_eq_true rfl⟩ (sk_recv hK hw kdn_158 (kd_in kdn_158) (by decide) rfl) (sk_pre hK hw) rfl hl.1 rfl (Nat.le_of_ble_eq_true rfl) (okX12_pass (102, .invokevirtual 257, 3) (List.mem_of_getElem? (i := 57) rfl)) ⟨Nat.zero_le _, Nat.zero_le _⟩) hw (fun r_102 I_102 H locs hr_r_102 hM hw => ?_)
      refine lv_istore (lv' := [(5, .int (iI r_102)), (0, .ref (sk_ad G 158)), (1, .int (iI v1)), (2, .int (iI v2)), (3, .int (iI v3)), (4, .int (iI v4))]) hx hb (okX12_pass (105, .istore 5, 2) (List.mem_of_getElem? (i := 58) rfl)) hl (by decide) rfl (fun ls hl => ?_)
      refine lv_iconst (v := iI 0) hx hb (okX12_pass (107, .iconst 0, 1) (List.mem_of_getElem? (i := 59) rfl)) rfl ?_
      refine lv_istore (lv' := [(6, .int (iI 0)), (5, .int (iI r_102)), (0, .ref (sk_ad G 158)), (1, .int (iI v1)), (2, .int (iI v2)), (3, .int (iI v3)), (4, .int (iI v4))]) hx hb (okX12_pass (108, .istore 6, 2) (List.mem_of_getElem? (i := 60) rfl)) hl (by decide) rfl (fun ls hl => ?_)
      exact hJ_110 v4 r_102 0 I_102 hr_v4 hr_r_102 (by decide) hM H locs ls hw (lv_sub hl [2, 6, 1, 0] rfl)
    · have hM := hM.2 c86
      refine lv_bipush (v := iI (-3)) hx hb (okX12_pass (89, .bipush (-3), 2) (List.mem_of_getElem? (i := 47) rfl)) (by decide +kernel) ?_
      exact sk_iret hx hb hr0 hlocks hK hw (by decide) hM (okX12_pass (91, .ireturn, 1) (List.mem_of_getElem? (i := 48) rfl))
  have hJ_60 : ∀ (v1 v2 v3 s0 : Int) (I : sk_S), rI v1 → rI v2 → rI v3 → rI s0 → J_Mo_pass_60 v1 v2 v3 s0 Q I → ∀ (H : Heap) (locs : List Loc) (ls : Array Slot), sk_W G 198 sk_t I s H locs → lv_has ls 7 [(0, .ref (sk_ad G 158)), (1, .int (iI v1)), (2, .int (iI v2)), (3, .int (iI v3))] → W p l e (headSpec wsX12_pass rmX12_pass).room s m ([.ref (sk_ad G 158), .int (iI p1), .int (iI p2), .int (iI p3)].toArray) below meth c H locs 0 0 (MQ below (sk_Qi G 198 sk_t Q) ([.ref (sk_ad G 158), .int (iI p1), .int (iI p2), .int (iI p3)].toArray) s 0 0 (sk_A G)) (F0 m 60 ls [.int (iI s0)]) := by
    intro v1 v2 v3 s0 I hr_v1 hr_v2 hr_v3 hr_s0 hM H locs ls hw hl
    unfold J_Mo_pass_60 at hM
    refine lv_istore (lv' := [(4, .int (iI s0)), (0, .ref (sk_ad G 158)), (1, .int (iI v1)), (2, .int (iI v2)), (3, .int (iI v3))]) hx hb (okX12_pass (60, .istore 4, 2) (List.mem_of_getElem? (i := 33) rfl)) hl (by decide) rfl (fun ls hl => ?_)
    refine lv_iload hx hb (okX12_pass (62, .iload 4, 2) (List.mem_of_getElem? (i := 34) rfl)) (lv_at hl 0 rfl) ?_
    refine sk_if_eq (tgt := 89) hx hb hr_s0 (okX12_pass (64, .ifCond .eq 25, 3) (List.mem_of_getElem? (i := 35) rfl)) (by decide) (fun c64 => ?_) (fun c64 => ?_)
    · have hM := hM.1 c64
      refine lv_bipush (v := iI (-3)) hx hb (okX12_pass (89, .bipush (-3), 2) (List.mem_of_getElem? (i := 47) rfl)) (by decide +kernel) ?_
      exact sk_iret hx hb hr0 hlocks hK hw (by decide) hM (okX12_pass (91, .ireturn, 1) (List.mem_of_getElem? (i := 48) rfl))
    · have hM := hM.2 c64
      refine lv_iload hx hb (okX12_pass (67, .iload 4, 2) (List.mem_of_getElem? (i := 36) rfl)) (lv_at hl 0 rfl) ?_
      refine lv_iload_n hx hb (okX12_pass (69, .iload_n 2, 1) (List.mem_of_getElem? (i := 37) rfl)) rfl (lv_at hl 3 rfl) ?_
      refine sk_if_ge (tgt := 80) hx hb hr_v2 (okX12_pass (70, .ifCond .ge 10, 3) (List.mem_of_getElem? (i := 38) rfl)) (by decide) (fun c70 => ?_) (fun c70 => ?_)
      · have hM := hM.1 c70
        refine lv_aload_n hx hb (okX12_pass (80, .aload_n 0, 1) (List.mem_of_getElem? (i := 42) rfl)) rfl (lv_at hl 1 rfl) ?_
        refine sk_getr (b := 162) S hK hw kdn_158 (kd_in kdn_158) (C := RX12) (T := TX12) (N := 53) rfl hI12 3 ⟨by decide, rfl, by decide, rfl⟩ rfl (k' := 3) rfl rfl (by decide +kernel) hL1 (okX12_pass (81, .getfield 19, 3) (List.mem_of_getElem? (i := 43) rfl)) ?_
        refine lv_iload_n hx hb (okX12_pass (84, .iload_n 2, 1) (List.mem_of_getElem? (i := 44) rfl)) rfl (lv_at hl 3 rfl) ?_
        obtain ⟨hi4, hM⟩ := hM
        have hr5 := hw.1.2.2 162 v2
        refine sk_ild S hK hw kdn_162 (kd_in kdn_162) (by rw [lnn_162]; exact hi4) (okX12_pass (85, .iaload, 1) (List.mem_of_getElem? (i := 45) rfl)) ?_
        exact hJ_86 v1 v2 v3 s0 s0 (I 162 v2) I hr_v1 hr_v2 hr_v3 hr_s0 hr_s0 hr5 hM H locs ls hw (lv_sub hl [1, 2, 3, 4, 0] rfl)
      · have hM := hM.2 c70
        refine lv_aload_n hx hb (okX12_pass (73, .aload_n 0, 1) (List.mem_of_getElem? (i := 39) rfl)) rfl (lv_at hl 1 rfl) ?_
        have hr6 := hw.1.2.2 158 8
        refine sk_geti S hK hw kdn_158 (kd_in kdn_158) (C := RX12) (T := TX12) (N := 53) rfl hI12 8 ⟨by decide, rfl, by decide, rfl⟩ rfl (k' := 8) rfl hL2 (okX12_pass (74, .getfield 140, 3) (List.mem_of_getElem? (i := 40) rfl)) ?_
        refine lv_goto (tgt := 86) hx hb (okX12_pass (77, .goto 9, 3) (List.mem_of_getElem? (i := 41) rfl)) (by decide) ?_
        exact hJ_86 v1 v2 v3 s0 s0 (I 158 8) I hr_v1 hr_v2 hr_v3 hr_s0 hr_s0 hr6 hM H locs ls hw (lv_sub hl [1, 2, 3, 4, 0] rfl)
  have hJ_28 : ∀ (v1 v2 v3 : Int) (I : sk_S), rI v1 → rI v2 → rI v3 → J_Mo_pass_28 v1 v2 v3 Q I → ∀ (H : Heap) (locs : List Loc) (ls : Array Slot), sk_W G 198 sk_t I s H locs → lv_has ls 7 [(0, .ref (sk_ad G 158)), (1, .int (iI v1)), (2, .int (iI v2)), (3, .int (iI v3))] → W p l e (headSpec wsX12_pass rmX12_pass).room s m ([.ref (sk_ad G 158), .int (iI p1), .int (iI p2), .int (iI p3)].toArray) below meth c H locs 0 0 (MQ below (sk_Qi G 198 sk_t Q) ([.ref (sk_ad G 158), .int (iI p1), .int (iI p2), .int (iI p3)].toArray) s 0 0 (sk_A G)) (F0 m 28 ls []) := by
    intro v1 v2 v3 I hr_v1 hr_v2 hr_v3 hM H locs ls hw hl
    unfold J_Mo_pass_28 at hM
    refine lv_iload_n hx hb (okX12_pass (28, .iload_n 3, 1) (List.mem_of_getElem? (i := 16) rfl)) rfl (lv_at hl 3 rfl) ?_
    refine sk_i2l hx hb hr_v3 (okX12_pass (29, .i2l, 1) (List.mem_of_getElem? (i := 17) rfl)) ?_
    refine lv_lconst (v := lI 1) hx hb (okX12_pass (30, .lconst 1, 1) (List.mem_of_getElem? (i := 18) rfl)) (by decide +kernel) ?_
    refine lv_ldc2 (v := lI 30) hx hb hown (by rw [show lI 30 = (30 : Int64) from by decide +kernel]; exact hL0) (okX12_pass (31, .ldc2_w 251, 3) (List.mem_of_getElem? (i := 19) rfl)) ?_
    refine sk_ci (sk_runS (As := [.long (lI v3), .long (lI 1), .long (lI 30)]) (rest := []) S (c_Mo_isIn l G ⟨Int.le_trans (by decide) (hr_v3).1, Int.lt_trans (hr_v3).2 (by decide)⟩ (by decide) (by decide) hM) sk_blind gX12_pass_X12_isIn rfl hdX12_isIn ⟨⟨rfl, rfl⟩, Nat.le_of_ble_eq_true rfl, Nat.le_of_ble_eq_true rfl⟩ (sk_pre hK hw) rfl hl.1 rfl (Nat.le_of_ble_eq_true rfl) (okX12_pass (34, .invokestatic 150, 3) (List.mem_of_getElem? (i := 20) rfl)) ⟨Nat.zero_le _, Nat.zero_le _⟩) hw (fun r_34 I_34 H locs hr_r_34 hM hw => ?_)
    obtain ⟨hb_r_34, hM⟩ := hM
    refine sk_if_ne (tgt := 43) hx hb hr_r_34 (okX12_pass (37, .ifCond .ne 6, 3) (List.mem_of_getElem? (i := 21) rfl)) (by decide) (fun c37 => ?_) (fun c37 => ?_)
    · have hM := hM.1 c37
      refine lv_iload_n hx hb (okX12_pass (43, .iload_n 1, 1) (List.mem_of_getElem? (i := 24) rfl)) rfl (lv_at hl 1 rfl) ?_
      refine sk_if_ge (tgt := 54) hx hb hr_v1 (okX12_pass (44, .ifCond .ge 10, 3) (List.mem_of_getElem? (i := 25) rfl)) (by decide) (fun c44 => ?_) (fun c44 => ?_)
      · have hM := hM.1 c44
        refine lv_aload_n hx hb (okX12_pass (54, .aload_n 0, 1) (List.mem_of_getElem? (i := 29) rfl)) rfl (lv_at hl 0 rfl) ?_
        refine sk_getr (b := 162) S hK hw kdn_158 (kd_in kdn_158) (C := RX12) (T := TX12) (N := 53) rfl hI12 3 ⟨by decide, rfl, by decide, rfl⟩ rfl (k' := 3) rfl rfl (by decide +kernel) hL1 (okX12_pass (55, .getfield 19, 3) (List.mem_of_getElem? (i := 30) rfl)) ?_
        refine lv_iload_n hx hb (okX12_pass (58, .iload_n 1, 1) (List.mem_of_getElem? (i := 31) rfl)) rfl (lv_at hl 1 rfl) ?_
        obtain ⟨hi1, hM⟩ := hM
        have hr2 := hw.1.2.2 162 v1
        refine sk_ild S hK hw kdn_162 (kd_in kdn_162) (by rw [lnn_162]; exact hi1) (okX12_pass (59, .iaload, 1) (List.mem_of_getElem? (i := 32) rfl)) ?_
        exact hJ_60 v1 v2 v3 (I_34 162 v1) I_34 hr_v1 hr_v2 hr_v3 hr2 hM H locs ls hw (lv_sub hl [0, 1, 2, 3] rfl)
      · have hM := hM.2 c44
        refine lv_aload_n hx hb (okX12_pass (47, .aload_n 0, 1) (List.mem_of_getElem? (i := 26) rfl)) rfl (lv_at hl 0 rfl) ?_
        have hr3 := hw.1.2.2 158 8
        refine sk_geti S hK hw kdn_158 (kd_in kdn_158) (C := RX12) (T := TX12) (N := 53) rfl hI12 8 ⟨by decide, rfl, by decide, rfl⟩ rfl (k' := 8) rfl hL2 (okX12_pass (48, .getfield 140, 3) (List.mem_of_getElem? (i := 27) rfl)) ?_
        refine lv_goto (tgt := 60) hx hb (okX12_pass (51, .goto 9, 3) (List.mem_of_getElem? (i := 28) rfl)) (by decide) ?_
        exact hJ_60 v1 v2 v3 (I_34 158 8) I_34 hr_v1 hr_v2 hr_v3 hr3 hM H locs ls hw (lv_sub hl [0, 1, 2, 3] rfl)
    · have hM := hM.2 c37
      refine lv_bipush (v := iI (-2)) hx hb (okX12_pass (40, .bipush (-2), 2) (List.mem_of_getElem? (i := 22) rfl)) (by decide +kernel) ?_
      exact sk_iret hx hb hr0 hlocks hK hw (by decide) hM (okX12_pass (42, .ireturn, 1) (List.mem_of_getElem? (i := 23) rfl))
  have hJ_13 : ∀ (v1 v2 v3 : Int) (I : sk_S), rI v1 → rI v2 → rI v3 → J_Mo_pass_13 v1 v2 v3 Q I → ∀ (H : Heap) (locs : List Loc) (ls : Array Slot), sk_W G 198 sk_t I s H locs → lv_has ls 7 [(0, .ref (sk_ad G 158)), (1, .int (iI v1)), (2, .int (iI v2)), (3, .int (iI v3))] → W p l e (headSpec wsX12_pass rmX12_pass).room s m ([.ref (sk_ad G 158), .int (iI p1), .int (iI p2), .int (iI p3)].toArray) below meth c H locs 0 0 (MQ below (sk_Qi G 198 sk_t Q) ([.ref (sk_ad G 158), .int (iI p1), .int (iI p2), .int (iI p3)].toArray) s 0 0 (sk_A G)) (F0 m 13 ls []) := by
    intro v1 v2 v3 I hr_v1 hr_v2 hr_v3 hM H locs ls hw hl
    unfold J_Mo_pass_13 at hM
    refine lv_iload_n hx hb (okX12_pass (13, .iload_n 2, 1) (List.mem_of_getElem? (i := 7) rfl)) rfl (lv_at hl 2 rfl) ?_
    refine lv_iconst (v := iI (-1)) hx hb (okX12_pass (14, .iconst (-1), 1) (List.mem_of_getElem? (i := 8) rfl)) rfl ?_
    refine sk_icmp_eq (tgt := 28) hx hb hr_v2 (by decide) (okX12_pass (15, .if_icmp .eq 13, 3) (List.mem_of_getElem? (i := 9) rfl)) (by decide) (fun c15 => ?_) (fun c15 => ?_)
    · have hM := hM.1 c15
      exact hJ_28 v1 v2 v3 I hr_v1 hr_v2 hr_v3 hM H locs ls hw (lv_sub hl [0, 1, 2, 3] rfl)
    · have hM := hM.2 c15
      refine lv_aload_n hx hb (okX12_pass (18, .aload_n 0, 1) (List.mem_of_getElem? (i := 10) rfl)) rfl (lv_at hl 0 rfl) ?_
      refine lv_iload_n hx hb (okX12_pass (19, .iload_n 2, 1) (List.mem_of_getElem? (i := 11) rfl)) rfl (lv_at hl 2 rfl) ?_
      refine sk_ci (sk_runV (a := 158) (C := RX12) (As := [.int (iI v2)]) (rest := []) S (c_Mo_isFigure l G hr_v2 hM) sk_blind gX12_pass_X12_isFigure rfl hdX12_isFigure ⟨⟨rfl, rfl⟩, Nat.le_of_ble_eq_true rfl, Nat.le_of_ble_eq_true rfl⟩ (sk_recv hK hw kdn_158 (kd_in kdn_158) (by decide) rfl) (sk_pre hK hw) rfl hl.1 rfl (Nat.le_of_ble_eq_true rfl) (okX12_pass (20, .invokevirtual 200, 3) (List.mem_of_getElem? (i := 12) rfl)) ⟨Nat.zero_le _, Nat.zero_le _⟩) hw (fun r_20 I_20 H locs hr_r_20 hM hw => ?_)
      obtain ⟨hb_r_20, hM⟩ := hM
      refine sk_if_ne (tgt := 28) hx hb hr_r_20 (okX12_pass (23, .ifCond .ne 5, 3) (List.mem_of_getElem? (i := 13) rfl)) (by decide) (fun c23 => ?_) (fun c23 => ?_)
      · have hM := hM.1 c23
        exact hJ_28 v1 v2 v3 I_20 hr_v1 hr_v2 hr_v3 hM H locs ls hw (lv_sub hl [0, 1, 2, 3] rfl)
      · have hM := hM.2 c23
        refine lv_iconst (v := iI (-1)) hx hb (okX12_pass (26, .iconst (-1), 1) (List.mem_of_getElem? (i := 14) rfl)) rfl ?_
        exact sk_iret hx hb hr0 hlocks hK hw (by decide) hM (okX12_pass (27, .ireturn, 1) (List.mem_of_getElem? (i := 15) rfl))
  unfold M_Mo_pass at hM
  intro H locs hw
  refine lv_iload_n hx hb (okX12_pass (0, .iload_n 1, 1) (List.mem_of_getElem? (i := 0) rfl)) rfl (lv_at hl 1 rfl) ?_
  refine lv_iconst (v := iI (-1)) hx hb (okX12_pass (1, .iconst (-1), 1) (List.mem_of_getElem? (i := 1) rfl)) rfl ?_
  refine sk_icmp_eq (tgt := 13) hx hb hr_p1 (by decide) (okX12_pass (2, .if_icmp .eq 11, 3) (List.mem_of_getElem? (i := 2) rfl)) (by decide) (fun c2 => ?_) (fun c2 => ?_)
  · have hM := hM.1 c2
    exact hJ_13 p1 p2 p3 I hr_p1 hr_p2 hr_p3 hM H locs ls hw (lv_sub hl [0, 1, 2, 3] rfl)
  · have hM := hM.2 c2
    refine lv_aload_n hx hb (okX12_pass (5, .aload_n 0, 1) (List.mem_of_getElem? (i := 3) rfl)) rfl (lv_at hl 0 rfl) ?_
    refine lv_iload_n hx hb (okX12_pass (6, .iload_n 1, 1) (List.mem_of_getElem? (i := 4) rfl)) rfl (lv_at hl 1 rfl) ?_
    refine sk_ci (sk_runV (a := 158) (C := RX12) (As := [.int (iI p1)]) (rest := []) S (c_Mo_isFigure l G hr_p1 hM) sk_blind gX12_pass_X12_isFigure rfl hdX12_isFigure ⟨⟨rfl, rfl⟩, Nat.le_of_ble_eq_true rfl, Nat.le_of_ble_eq_true rfl⟩ (sk_recv hK hw kdn_158 (kd_in kdn_158) (by decide) rfl) (sk_pre hK hw) rfl hl.1 rfl (Nat.le_of_ble_eq_true rfl) (okX12_pass (7, .invokevirtual 200, 3) (List.mem_of_getElem? (i := 5) rfl)) ⟨Nat.zero_le _, Nat.zero_le _⟩) hw (fun r_7 I_7 H locs hr_r_7 hM hw => ?_)
    obtain ⟨hb_r_7, hM⟩ := hM
    refine sk_if_eq (tgt := 26) hx hb hr_r_7 (okX12_pass (10, .ifCond .eq 16, 3) (List.mem_of_getElem? (i := 6) rfl)) (by decide) (fun c10 => ?_) (fun c10 => ?_)
    · have hM := hM.1 c10
      refine lv_iconst (v := iI (-1)) hx hb (okX12_pass (26, .iconst (-1), 1) (List.mem_of_getElem? (i := 14) rfl)) rfl ?_
      exact sk_iret hx hb hr0 hlocks hK hw (by decide) hM (okX12_pass (27, .ireturn, 1) (List.mem_of_getElem? (i := 15) rfl))
    · have hM := hM.2 c10
      exact hJ_13 p1 p2 p3 I_7 hr_p1 hr_p2 hr_p3 hM H locs ls hw (lv_sub hl [0, 1, 2, 3] rfl)
def rmX12_point_ : Room := { frames := 3, cells := 0, slots := 0, locals := 163 }
set_option maxHeartbeats 4000000 in
set_option maxRecDepth 100000 in
theorem c_Mo_point_ (l : Launch) (G : sk_G) {p1 p2 p3 : Int} (hr_p1 : rI p1) (hr_p2 : rI p2) (hr_p3 : rI p3) {Q : Int → sk_S → Prop} {I : sk_S} (hM : M_Mo_point_ p1 p2 p3 Q I) : Met l yX12_point_ wsX12_point_ rmX12_point_ (va_Pc [.ref (sk_ad G 158), .int (iI p1), .int (iI p2), .int (iI p3)] (sk_U G 198 sk_t I)) (sk_Qi G 198 sk_t Q) 0 0 (sk_A G) := by
  refine Met.ofW (cc := cX12_point_) (maxL := 5) (ret := (some .int)) (by decide) rfl ?_
  intro p e s m args below meth c s₁ B hml hv
  obtain ⟨rfl, hU, hK⟩ := hv
  have hx := B.exec
  have hb := B.bytes
  have hr0 := B.returns
  have hts := atoms_spec (ws := wsX12_point_) B.pre
  have hown : s.vm.findClass RX12 = some m.cls := findClass_of_methodNamed B.named
  have hlocks := B.notSynchronized
  have S : CallFix p m c cX12_point_ 5 s ([.ref (sk_ad G 158), .int (iI p1), .int (iI p2), .int (iI p3)].toArray) wsX12_point_ RX12 := ⟨hx, hb, hml, hown, hts⟩
  have hL0 := hts (.constantLong RX12 203 (-1)) (by decide +kernel)
  have hL1 := hts (.fieldLink RX12 19 "SkyLightsModel" "size" "[I") (by decide +kernel)
  have hL2 := hts (.fieldLink RX12 22 "SkyLightsModel" "pointX" "[I") (by decide +kernel)
  have hL3 := hts (.fieldLink RX12 25 "SkyLightsModel" "pointY" "[I") (by decide +kernel)
  have hL4 := hts (.fieldLink RX12 28 "SkyLightsModel" "pointZ" "[I") (by decide +kernel)
  have hL5 := hts (.fieldLink RX12 31 "SkyLightsModel" "worth" "[I") (by decide +kernel)
  have hL6 := hts (.fieldLink RX12 34 "SkyLightsModel" "gap" "I") (by decide +kernel)
  have hI12 : ∀ w ∈ u_ws RX12 TX12 53, w ∈ wsX12_point_ := by decide +kernel
  have hw : sk_W G 198 sk_t I s s.heap [] := ⟨hU, va_S.rf⟩
  have hl := lv_entry ([.ref (sk_ad G 158), .int (iI p1), .int (iI p2), .int (iI p3)]) (n := 5) (Nat.le_of_ble_eq_true rfl)
  rw [lg_entry_eq]
  generalize (lg_sl ([.ref (sk_ad G 158), .int (iI p1), .int (iI p2), .int (iI p3)]) ++ List.replicate (5 - (lg_sl ([.ref (sk_ad G 158), .int (iI p1), .int (iI p2), .int (iI p3)])).length) Slot.unset).toArray = ls at hl ⊢
  have hl : lv_has ls 5 [(0, .ref (sk_ad G 158)), (1, .int (iI p1)), (2, .int (iI p2)), (3, .int (iI p3))] := hl
  suffices hgo : ∀ (H : Heap) (locs : List Loc), sk_W G 198 sk_t I s H locs → W p l e (headSpec wsX12_point_ rmX12_point_).room s m ([.ref (sk_ad G 158), .int (iI p1), .int (iI p2), .int (iI p3)].toArray) below meth c H locs 0 0 (MQ below (sk_Qi G 198 sk_t Q) ([.ref (sk_ad G 158), .int (iI p1), .int (iI p2), .int (iI p3)].toArray) s 0 0 (sk_A G)) (F0 m 0 ls []) from hgo _ _ hw
  unfold M_Mo_point_ at hM
  intro H locs hw
  refine lv_aload_n hx hb (okX12_point_ (0, .aload_n 0, 1) (List.mem_of_getElem? (i := 0) rfl)) rfl (lv_at hl 0 rfl) ?_
  refine lv_iload_n hx hb (okX12_point_ (1, .iload_n 1, 1) (List.mem_of_getElem? (i := 1) rfl)) rfl (lv_at hl 1 rfl) ?_
  refine sk_ci (sk_runV (a := 158) (C := RX12) (As := [.int (iI p1)]) (rest := []) S (c_Mo_isFigure l G hr_p1 hM) sk_blind gX12_point__X12_isFigure rfl hdX12_isFigure ⟨⟨rfl, rfl⟩, Nat.le_of_ble_eq_true rfl, Nat.le_of_ble_eq_true rfl⟩ (sk_recv hK hw kdn_158 (kd_in kdn_158) (by decide) rfl) (sk_pre hK hw) rfl hl.1 rfl (Nat.le_of_ble_eq_true rfl) (okX12_point_ (2, .invokevirtual 200, 3) (List.mem_of_getElem? (i := 2) rfl)) ⟨Nat.zero_le _, Nat.zero_le _⟩) hw (fun r_2 I_2 H locs hr_r_2 hM hw => ?_)
  obtain ⟨hb_r_2, hM⟩ := hM
  refine sk_if_eq (tgt := 28) hx hb hr_r_2 (okX12_point_ (5, .ifCond .eq 23, 3) (List.mem_of_getElem? (i := 3) rfl)) (by decide) (fun c5 => ?_) (fun c5 => ?_)
  · have hM := hM.1 c5
    refine lv_sipush (v := iI (-1000)) hx hb (okX12_point_ (28, .sipush (-1000), 3) (List.mem_of_getElem? (i := 16) rfl)) (by decide +kernel) ?_
    exact sk_iret hx hb hr0 hlocks hK hw (by decide) hM (okX12_point_ (31, .ireturn, 1) (List.mem_of_getElem? (i := 17) rfl))
  · have hM := hM.2 c5
    refine lv_iload_n hx hb (okX12_point_ (8, .iload_n 2, 1) (List.mem_of_getElem? (i := 4) rfl)) rfl (lv_at hl 2 rfl) ?_
    refine sk_i2l hx hb hr_p2 (okX12_point_ (9, .i2l, 1) (List.mem_of_getElem? (i := 5) rfl)) ?_
    refine lv_ldc2 (v := lI (-1)) hx hb hown (by rw [show lI (-1) = (-1 : Int64) from by decide +kernel]; exact hL0) (okX12_point_ (10, .ldc2_w 203, 3) (List.mem_of_getElem? (i := 6) rfl)) ?_
    refine lv_aload_n hx hb (okX12_point_ (13, .aload_n 0, 1) (List.mem_of_getElem? (i := 7) rfl)) rfl (lv_at hl 0 rfl) ?_
    refine sk_getr (b := 162) S hK hw kdn_158 (kd_in kdn_158) (C := RX12) (T := TX12) (N := 53) rfl hI12 3 ⟨by decide, rfl, by decide, rfl⟩ rfl (k' := 3) rfl rfl (by decide +kernel) hL1 (okX12_point_ (14, .getfield 19, 3) (List.mem_of_getElem? (i := 8) rfl)) ?_
    refine lv_iload_n hx hb (okX12_point_ (17, .iload_n 1, 1) (List.mem_of_getElem? (i := 9) rfl)) rfl (lv_at hl 1 rfl) ?_
    obtain ⟨hi1, hM⟩ := hM
    have hr2 := hw.1.2.2 162 p1
    refine sk_ild S hK hw kdn_162 (kd_in kdn_162) (by rw [lnn_162]; exact hi1) (okX12_point_ (18, .iaload, 1) (List.mem_of_getElem? (i := 10) rfl)) ?_
    refine lv_iconst (v := iI 1) hx hb (okX12_point_ (19, .iconst 1, 1) (List.mem_of_getElem? (i := 11) rfl)) rfl ?_
    refine sk_isub hx hb (okX12_point_ (20, .isub, 1) (List.mem_of_getElem? (i := 12) rfl)) ?_
    obtain ⟨hr3, hM⟩ := hM
    refine sk_i2l hx hb hr3 (okX12_point_ (21, .i2l, 1) (List.mem_of_getElem? (i := 13) rfl)) ?_
    refine sk_ci (sk_runS (As := [.long (lI p2), .long (lI ((-1))), .long (lI ((I_2 162 p1) - 1))]) (rest := []) S (c_Mo_isIn l G ⟨Int.le_trans (by decide) (hr_p2).1, Int.lt_trans (hr_p2).2 (by decide)⟩ (by decide) ⟨Int.le_trans (by decide) (hr3).1, Int.lt_trans (hr3).2 (by decide)⟩ hM) sk_blind gX12_point__X12_isIn rfl hdX12_isIn ⟨⟨rfl, rfl⟩, Nat.le_of_ble_eq_true rfl, Nat.le_of_ble_eq_true rfl⟩ (sk_pre hK hw) rfl hl.1 rfl (Nat.le_of_ble_eq_true rfl) (okX12_point_ (22, .invokestatic 150, 3) (List.mem_of_getElem? (i := 14) rfl)) ⟨Nat.zero_le _, Nat.zero_le _⟩) hw (fun r_22 I_22 H locs hr_r_22 hM hw => ?_)
    obtain ⟨hb_r_22, hM⟩ := hM
    refine sk_if_ne (tgt := 32) hx hb hr_r_22 (okX12_point_ (25, .ifCond .ne 7, 3) (List.mem_of_getElem? (i := 15) rfl)) (by decide) (fun c25 => ?_) (fun c25 => ?_)
    · have hM := hM.1 c25
      refine lv_iload_n hx hb (okX12_point_ (32, .iload_n 2, 1) (List.mem_of_getElem? (i := 18) rfl)) rfl (lv_at hl 2 rfl) ?_
      refine sk_if_ge (tgt := 90) hx hb hr_p2 (okX12_point_ (33, .ifCond .ge 57, 3) (List.mem_of_getElem? (i := 19) rfl)) (by decide) (fun c33 => ?_) (fun c33 => ?_)
      · have hM := hM.1 c33
        refine lv_bipush (v := iI 10) hx hb (okX12_point_ (90, .bipush 10, 2) (List.mem_of_getElem? (i := 49) rfl)) (by decide +kernel) ?_
        refine lv_iload_n hx hb (okX12_point_ (92, .iload_n 1, 1) (List.mem_of_getElem? (i := 50) rfl)) rfl (lv_at hl 1 rfl) ?_
        refine sk_imul hx hb (okX12_point_ (93, .imul, 1) (List.mem_of_getElem? (i := 51) rfl)) ?_
        refine lv_iload_n hx hb (okX12_point_ (94, .iload_n 2, 1) (List.mem_of_getElem? (i := 52) rfl)) rfl (lv_at hl 2 rfl) ?_
        refine sk_iadd hx hb (okX12_point_ (95, .iadd, 1) (List.mem_of_getElem? (i := 53) rfl)) ?_
        obtain ⟨hr4, hM⟩ := hM
        refine sk_nm (fun v4_96 ev4_96 => ?_)
        have hM := hM v4_96 ev4_96
        have hr_v4_96 : rI v4_96 := by rw [ev4_96]; exact hr4
        refine lv_istore (lv' := [(4, .int (iI v4_96)), (0, .ref (sk_ad G 158)), (1, .int (iI p1)), (2, .int (iI p2)), (3, .int (iI p3))]) hx hb (okX12_point_ (96, .istore 4, 2) (List.mem_of_getElem? (i := 54) rfl)) hl (by decide) rfl (fun ls hl => ?_)
        refine lv_iload_n hx hb (okX12_point_ (98, .iload_n 3, 1) (List.mem_of_getElem? (i := 55) rfl)) rfl (lv_at hl 4 rfl) ?_
        rcases (show (p3 < 0 ∨ 3 < p3) ∨ p3 = 0 ∨ p3 = 1 ∨ p3 = 2 ∨ p3 = 3 by omega) with c99 | c99 | c99 | c99 | c99
        · have hM := hM.1 c99
          refine sk_tabOut (tgt := 160) hx hb hr_p3 c99 (okX12_point_ (99, .tableswitch 61 0 3 #[29, 37, 45, 53], 29) (List.mem_of_getElem? (i := 56) rfl)) (by decide) ?_
          refine lv_sipush (v := iI (-1000)) hx hb (okX12_point_ (160, .sipush (-1000), 3) (List.mem_of_getElem? (i := 77) rfl)) (by decide +kernel) ?_
          exact sk_iret hx hb hr0 hlocks hK hw (by decide) hM (okX12_point_ (163, .ireturn, 1) (List.mem_of_getElem? (i := 78) rfl))
        · have hM := hM.2.1 c99
          refine sk_tabIn (tgt := 128) (off := 29) hx hb hr_p3 (by rw [c99]; decide) (by rw [c99]; rfl) (okX12_point_ (99, .tableswitch 61 0 3 #[29, 37, 45, 53], 29) (List.mem_of_getElem? (i := 56) rfl)) (by decide) ?_
          refine lv_aload_n hx hb (okX12_point_ (128, .aload_n 0, 1) (List.mem_of_getElem? (i := 57) rfl)) rfl (lv_at hl 1 rfl) ?_
          refine sk_getr (b := 163) S hK hw kdn_158 (kd_in kdn_158) (C := RX12) (T := TX12) (N := 53) rfl hI12 4 ⟨by decide, rfl, by decide, rfl⟩ rfl (k' := 4) rfl rfl (by decide +kernel) hL2 (okX12_point_ (129, .getfield 22, 3) (List.mem_of_getElem? (i := 58) rfl)) ?_
          refine lv_iload hx hb (okX12_point_ (132, .iload 4, 2) (List.mem_of_getElem? (i := 59) rfl)) (lv_at hl 0 rfl) ?_
          obtain ⟨hi5, hM⟩ := hM
          have hr6 := hw.1.2.2 163 v4_96
          refine sk_ild S hK hw kdn_163 (kd_in kdn_163) (by rw [lnn_163]; exact hi5) (okX12_point_ (134, .iaload, 1) (List.mem_of_getElem? (i := 60) rfl)) ?_
          exact sk_iret hx hb hr0 hlocks hK hw hr6 hM (okX12_point_ (135, .ireturn, 1) (List.mem_of_getElem? (i := 61) rfl))
        · have hM := hM.2.2.1 c99
          refine sk_tabIn (tgt := 136) (off := 37) hx hb hr_p3 (by rw [c99]; decide) (by rw [c99]; rfl) (okX12_point_ (99, .tableswitch 61 0 3 #[29, 37, 45, 53], 29) (List.mem_of_getElem? (i := 56) rfl)) (by decide) ?_
          refine lv_aload_n hx hb (okX12_point_ (136, .aload_n 0, 1) (List.mem_of_getElem? (i := 62) rfl)) rfl (lv_at hl 1 rfl) ?_
          refine sk_getr (b := 164) S hK hw kdn_158 (kd_in kdn_158) (C := RX12) (T := TX12) (N := 53) rfl hI12 5 ⟨by decide, rfl, by decide, rfl⟩ rfl (k' := 5) rfl rfl (by decide +kernel) hL3 (okX12_point_ (137, .getfield 25, 3) (List.mem_of_getElem? (i := 63) rfl)) ?_
          refine lv_iload hx hb (okX12_point_ (140, .iload 4, 2) (List.mem_of_getElem? (i := 64) rfl)) (lv_at hl 0 rfl) ?_
          obtain ⟨hi7, hM⟩ := hM
          have hr8 := hw.1.2.2 164 v4_96
          refine sk_ild S hK hw kdn_164 (kd_in kdn_164) (by rw [lnn_164]; exact hi7) (okX12_point_ (142, .iaload, 1) (List.mem_of_getElem? (i := 65) rfl)) ?_
          exact sk_iret hx hb hr0 hlocks hK hw hr8 hM (okX12_point_ (143, .ireturn, 1) (List.mem_of_getElem? (i := 66) rfl))
        · have hM := hM.2.2.2.1 c99
          refine sk_tabIn (tgt := 144) (off := 45) hx hb hr_p3 (by rw [c99]; decide) (by rw [c99]; rfl) (okX12_point_ (99, .tableswitch 61 0 3 #[29, 37, 45, 53], 29) (List.mem_of_getElem? (i := 56) rfl)) (by decide) ?_
          refine lv_aload_n hx hb (okX12_point_ (144, .aload_n 0, 1) (List.mem_of_getElem? (i := 67) rfl)) rfl (lv_at hl 1 rfl) ?_
          refine sk_getr (b := 165) S hK hw kdn_158 (kd_in kdn_158) (C := RX12) (T := TX12) (N := 53) rfl hI12 6 ⟨by decide, rfl, by decide, rfl⟩ rfl (k' := 6) rfl rfl (by decide +kernel) hL4 (okX12_point_ (145, .getfield 28, 3) (List.mem_of_getElem? (i := 68) rfl)) ?_
          refine lv_iload hx hb (okX12_point_ (148, .iload 4, 2) (List.mem_of_getElem? (i := 69) rfl)) (lv_at hl 0 rfl) ?_
          obtain ⟨hi9, hM⟩ := hM
          have hr10 := hw.1.2.2 165 v4_96
          refine sk_ild S hK hw kdn_165 (kd_in kdn_165) (by rw [lnn_165]; exact hi9) (okX12_point_ (150, .iaload, 1) (List.mem_of_getElem? (i := 70) rfl)) ?_
          exact sk_iret hx hb hr0 hlocks hK hw hr10 hM (okX12_point_ (151, .ireturn, 1) (List.mem_of_getElem? (i := 71) rfl))
        · have hM := hM.2.2.2.2 c99
          refine sk_tabIn (tgt := 152) (off := 53) hx hb hr_p3 (by rw [c99]; decide) (by rw [c99]; rfl) (okX12_point_ (99, .tableswitch 61 0 3 #[29, 37, 45, 53], 29) (List.mem_of_getElem? (i := 56) rfl)) (by decide) ?_
          refine lv_aload_n hx hb (okX12_point_ (152, .aload_n 0, 1) (List.mem_of_getElem? (i := 72) rfl)) rfl (lv_at hl 1 rfl) ?_
          refine sk_getr (b := 166) S hK hw kdn_158 (kd_in kdn_158) (C := RX12) (T := TX12) (N := 53) rfl hI12 7 ⟨by decide, rfl, by decide, rfl⟩ rfl (k' := 7) rfl rfl (by decide +kernel) hL5 (okX12_point_ (153, .getfield 31, 3) (List.mem_of_getElem? (i := 73) rfl)) ?_
          refine lv_iload hx hb (okX12_point_ (156, .iload 4, 2) (List.mem_of_getElem? (i := 74) rfl)) (lv_at hl 0 rfl) ?_
          obtain ⟨hi11, hM⟩ := hM
          have hr12 := hw.1.2.2 166 v4_96
          refine sk_ild S hK hw kdn_166 (kd_in kdn_166) (by rw [lnn_166]; exact hi11) (okX12_point_ (158, .iaload, 1) (List.mem_of_getElem? (i := 75) rfl)) ?_
          exact sk_iret hx hb hr0 hlocks hK hw hr12 hM (okX12_point_ (159, .ireturn, 1) (List.mem_of_getElem? (i := 76) rfl))
      · have hM := hM.2 c33
        refine lv_iload_n hx hb (okX12_point_ (36, .iload_n 3, 1) (List.mem_of_getElem? (i := 20) rfl)) rfl (lv_at hl 3 rfl) ?_
        refine sk_if_ne (tgt := 47) hx hb hr_p3 (okX12_point_ (37, .ifCond .ne 10, 3) (List.mem_of_getElem? (i := 21) rfl)) (by decide) (fun c37 => ?_) (fun c37 => ?_)
        · have hM := hM.1 c37
          refine lv_aload_n hx hb (okX12_point_ (47, .aload_n 0, 1) (List.mem_of_getElem? (i := 27) rfl)) rfl (lv_at hl 0 rfl) ?_
          refine lv_iload_n hx hb (okX12_point_ (48, .iload_n 1, 1) (List.mem_of_getElem? (i := 28) rfl)) rfl (lv_at hl 1 rfl) ?_
          refine sk_ci (sk_runV (a := 158) (C := RX12) (As := [.int (iI p1)]) (rest := []) S (c_Mo_least l G hr_p1 hM) sk_blind gX12_point__X12_least rfl hdX12_least ⟨⟨rfl, rfl⟩, Nat.le_of_ble_eq_true rfl, Nat.le_of_ble_eq_true rfl⟩ (sk_recv hK hw kdn_158 (kd_in kdn_158) (by decide) rfl) (sk_pre hK hw) rfl hl.1 rfl (Nat.le_of_ble_eq_true rfl) (okX12_point_ (49, .invokevirtual 205, 3) (List.mem_of_getElem? (i := 29) rfl)) ⟨Nat.zero_le _, Nat.zero_le _⟩) hw (fun r_49 I_49 H locs hr_r_49 hM hw => ?_)
          refine lv_istore (lv' := [(4, .int (iI r_49)), (0, .ref (sk_ad G 158)), (1, .int (iI p1)), (2, .int (iI p2)), (3, .int (iI p3))]) hx hb (okX12_point_ (52, .istore 4, 2) (List.mem_of_getElem? (i := 30) rfl)) hl (by decide) rfl (fun ls hl => ?_)
          refine lv_iload_n hx hb (okX12_point_ (54, .iload_n 3, 1) (List.mem_of_getElem? (i := 31) rfl)) rfl (lv_at hl 4 rfl) ?_
          refine lv_iconst (v := iI 1) hx hb (okX12_point_ (55, .iconst 1, 1) (List.mem_of_getElem? (i := 32) rfl)) rfl ?_
          refine sk_icmp_ne (tgt := 86) hx hb hr_p3 (by decide) (okX12_point_ (56, .if_icmp .ne 30, 3) (List.mem_of_getElem? (i := 33) rfl)) (by decide) (fun c56 => ?_) (fun c56 => ?_)
          · have hM := hM.1 c56
            refine lv_sipush (v := iI (-1000)) hx hb (okX12_point_ (86, .sipush (-1000), 3) (List.mem_of_getElem? (i := 47) rfl)) (by decide +kernel) ?_
            exact sk_iret hx hb hr0 hlocks hK hw (by decide) hM (okX12_point_ (89, .ireturn, 1) (List.mem_of_getElem? (i := 48) rfl))
          · have hM := hM.2 c56
            refine lv_iload hx hb (okX12_point_ (59, .iload 4, 2) (List.mem_of_getElem? (i := 34) rfl)) (lv_at hl 0 rfl) ?_
            refine sk_if_lt (tgt := 78) hx hb hr_r_49 (okX12_point_ (61, .ifCond .lt 17, 3) (List.mem_of_getElem? (i := 35) rfl)) (by decide) (fun c61 => ?_) (fun c61 => ?_)
            · have hM := hM.1 c61
              refine lv_iconst (v := iI 1) hx hb (okX12_point_ (78, .iconst 1, 1) (List.mem_of_getElem? (i := 43) rfl)) rfl ?_
              refine lv_goto (tgt := 89) hx hb (okX12_point_ (79, .goto 10, 3) (List.mem_of_getElem? (i := 44) rfl)) (by decide) ?_
              exact sk_iret hx hb hr0 hlocks hK hw (by decide) hM (okX12_point_ (89, .ireturn, 1) (List.mem_of_getElem? (i := 48) rfl))
            · have hM := hM.2 c61
              refine lv_iload hx hb (okX12_point_ (64, .iload 4, 2) (List.mem_of_getElem? (i := 36) rfl)) (lv_at hl 0 rfl) ?_
              refine lv_aload_n hx hb (okX12_point_ (66, .aload_n 0, 1) (List.mem_of_getElem? (i := 37) rfl)) rfl (lv_at hl 1 rfl) ?_
              have hr13 := hw.1.2.2 158 10
              refine sk_geti S hK hw kdn_158 (kd_in kdn_158) (C := RX12) (T := TX12) (N := 53) rfl hI12 10 ⟨by decide, rfl, by decide, rfl⟩ rfl (k' := 10) rfl hL6 (okX12_point_ (67, .getfield 34, 3) (List.mem_of_getElem? (i := 38) rfl)) ?_
              refine lv_aload_n hx hb (okX12_point_ (70, .aload_n 0, 1) (List.mem_of_getElem? (i := 39) rfl)) rfl (lv_at hl 1 rfl) ?_
              have hr14 := hw.1.2.2 158 10
              refine sk_geti S hK hw kdn_158 (kd_in kdn_158) (C := RX12) (T := TX12) (N := 53) rfl hI12 10 ⟨by decide, rfl, by decide, rfl⟩ rfl (k' := 10) rfl hL6 (okX12_point_ (71, .getfield 34, 3) (List.mem_of_getElem? (i := 40) rfl)) ?_
              refine sk_imul hx hb (okX12_point_ (74, .imul, 1) (List.mem_of_getElem? (i := 41) rfl)) ?_
              obtain ⟨hr15, hM⟩ := hM
              refine sk_icmp_lt (tgt := 82) hx hb hr_r_49 hr15 (okX12_point_ (75, .if_icmp .lt 7, 3) (List.mem_of_getElem? (i := 42) rfl)) (by decide) (fun c75 => ?_) (fun c75 => ?_)
              · have hM := hM.1 c75
                refine lv_iconst (v := iI 0) hx hb (okX12_point_ (82, .iconst 0, 1) (List.mem_of_getElem? (i := 45) rfl)) rfl ?_
                refine lv_goto (tgt := 89) hx hb (okX12_point_ (83, .goto 6, 3) (List.mem_of_getElem? (i := 46) rfl)) (by decide) ?_
                exact sk_iret hx hb hr0 hlocks hK hw (by decide) hM (okX12_point_ (89, .ireturn, 1) (List.mem_of_getElem? (i := 48) rfl))
              · have hM := hM.2 c75
                refine lv_iconst (v := iI 1) hx hb (okX12_point_ (78, .iconst 1, 1) (List.mem_of_getElem? (i := 43) rfl)) rfl ?_
                refine lv_goto (tgt := 89) hx hb (okX12_point_ (79, .goto 10, 3) (List.mem_of_getElem? (i := 44) rfl)) (by decide) ?_
                exact sk_iret hx hb hr0 hlocks hK hw (by decide) hM (okX12_point_ (89, .ireturn, 1) (List.mem_of_getElem? (i := 48) rfl))
        · have hM := hM.2 c37
          refine lv_aload_n hx hb (okX12_point_ (40, .aload_n 0, 1) (List.mem_of_getElem? (i := 22) rfl)) rfl (lv_at hl 0 rfl) ?_
          refine sk_getr (b := 162) S hK hw kdn_158 (kd_in kdn_158) (C := RX12) (T := TX12) (N := 53) rfl hI12 3 ⟨by decide, rfl, by decide, rfl⟩ rfl (k' := 3) rfl rfl (by decide +kernel) hL1 (okX12_point_ (41, .getfield 19, 3) (List.mem_of_getElem? (i := 23) rfl)) ?_
          refine lv_iload_n hx hb (okX12_point_ (44, .iload_n 1, 1) (List.mem_of_getElem? (i := 24) rfl)) rfl (lv_at hl 1 rfl) ?_
          obtain ⟨hi16, hM⟩ := hM
          have hr17 := hw.1.2.2 162 p1
          refine sk_ild S hK hw kdn_162 (kd_in kdn_162) (by rw [lnn_162]; exact hi16) (okX12_point_ (45, .iaload, 1) (List.mem_of_getElem? (i := 25) rfl)) ?_
          exact sk_iret hx hb hr0 hlocks hK hw hr17 hM (okX12_point_ (46, .ireturn, 1) (List.mem_of_getElem? (i := 26) rfl))
    · have hM := hM.2 c25
      refine lv_sipush (v := iI (-1000)) hx hb (okX12_point_ (28, .sipush (-1000), 3) (List.mem_of_getElem? (i := 16) rfl)) (by decide +kernel) ?_
      exact sk_iret hx hb hr0 hlocks hK hw (by decide) hM (okX12_point_ (31, .ireturn, 1) (List.mem_of_getElem? (i := 17) rfl))
def rmX12_scene : Room := { frames := 3, cells := 0, slots := 0, locals := 167 }
set_option maxHeartbeats 4000000 in
set_option maxRecDepth 100000 in
theorem c_Mo_scene (l : Launch) (G : sk_G) {p1 p2 p3 p4 : Int} (hr_p1 : rI p1) (hr_p2 : rI p2) (hr_p3 : rI p3) (hr_p4 : rI p4) {Q : Int → sk_S → Prop} {I : sk_S} (hM : M_Mo_scene p1 p2 p3 p4 Q I) : Met l yX12_scene wsX12_scene rmX12_scene (va_Pc [.ref (sk_ad G 158), .int (iI p1), .int (iI p2), .int (iI p3), .int (iI p4)] (sk_U G 198 sk_t I)) (sk_Qi G 198 sk_t Q) 0 0 (sk_A G) := by
  refine Met.ofW (cc := cX12_scene) (maxL := 7) (ret := (some .int)) (by decide) rfl ?_
  intro p e s m args below meth c s₁ B hml hv
  obtain ⟨rfl, hU, hK⟩ := hv
  have hx := B.exec
  have hb := B.bytes
  have hr0 := B.returns
  have hts := atoms_spec (ws := wsX12_scene) B.pre
  have hown : s.vm.findClass RX12 = some m.cls := findClass_of_methodNamed B.named
  have hlocks := B.notSynchronized
  have S : CallFix p m c cX12_scene 7 s ([.ref (sk_ad G 158), .int (iI p1), .int (iI p2), .int (iI p3), .int (iI p4)].toArray) wsX12_scene RX12 := ⟨hx, hb, hml, hown, hts⟩
  have hL0 := hts (.constantLong RX12 251 (30)) (by decide +kernel)
  have hL1 := hts (.constantLong RX12 208 (100)) (by decide +kernel)
  have hL2 := hts (.constantLong RX12 164 (255)) (by decide +kernel)
  have hL3 := hts (.fieldLink RX12 19 "SkyLightsModel" "size" "[I") (by decide +kernel)
  have hL4 := hts (.fieldLink RX12 140 "SkyLightsModel" "flyers" "I") (by decide +kernel)
  have hL5 := hts (.fieldLink RX12 156 "SkyLightsModel" "scenes" "I") (by decide +kernel)
  have hL6 := hts (.fieldLink RX12 92 "SkyLightsModel" "sceneFigure" "[I") (by decide +kernel)
  have hL7 := hts (.fieldLink RX12 95 "SkyLightsModel" "sceneTicks" "[I") (by decide +kernel)
  have hL8 := hts (.fieldLink RX12 98 "SkyLightsModel" "sceneHold" "[I") (by decide +kernel)
  have hL9 := hts (.fieldLink RX12 101 "SkyLightsModel" "sceneCue" "[I") (by decide +kernel)
  have hL10 := hts (.fieldLink RX12 104 "SkyLightsModel" "standsAt" "[I") (by decide +kernel)
  have hL11 := hts (.fieldLink RX12 77 "SkyLightsModel" "goesTo" "[I") (by decide +kernel)
  have hI12 : ∀ w ∈ u_ws RX12 TX12 53, w ∈ wsX12_scene := by decide +kernel
  have hw : sk_W G 198 sk_t I s s.heap [] := ⟨hU, va_S.rf⟩
  have hl := lv_entry ([.ref (sk_ad G 158), .int (iI p1), .int (iI p2), .int (iI p3), .int (iI p4)]) (n := 7) (Nat.le_of_ble_eq_true rfl)
  rw [lg_entry_eq]
  generalize (lg_sl ([.ref (sk_ad G 158), .int (iI p1), .int (iI p2), .int (iI p3), .int (iI p4)]) ++ List.replicate (7 - (lg_sl ([.ref (sk_ad G 158), .int (iI p1), .int (iI p2), .int (iI p3), .int (iI p4)])).length) Slot.unset).toArray = ls at hl ⊢
  have hl : lv_has ls 7 [(0, .ref (sk_ad G 158)), (1, .int (iI p1)), (2, .int (iI p2)), (3, .int (iI p3)), (4, .int (iI p4))] := hl
  suffices hgo : ∀ (H : Heap) (locs : List Loc), sk_W G 198 sk_t I s H locs → W p l e (headSpec wsX12_scene rmX12_scene).room s m ([.ref (sk_ad G 158), .int (iI p1), .int (iI p2), .int (iI p3), .int (iI p4)].toArray) below meth c H locs 0 0 (MQ below (sk_Qi G 198 sk_t Q) ([.ref (sk_ad G 158), .int (iI p1), .int (iI p2), .int (iI p3), .int (iI p4)].toArray) s 0 0 (sk_A G)) (F0 m 0 ls []) from hgo _ _ hw
  have hJ_136 : ∀ (v5 v6 : Int) (I : sk_S), rI v5 → rI v6 → L_Mo_scene_136 v5 Q v6 I → ∀ (H : Heap) (locs : List Loc) (ls : Array Slot), sk_W G 198 sk_t I s H locs → lv_has ls 7 [(0, .ref (sk_ad G 158)), (5, .int (iI v5)), (6, .int (iI v6))] → W p l e (headSpec wsX12_scene rmX12_scene).room s m ([.ref (sk_ad G 158), .int (iI p1), .int (iI p2), .int (iI p3), .int (iI p4)].toArray) below meth c H locs 0 0 (MQ below (sk_Qi G 198 sk_t Q) ([.ref (sk_ad G 158), .int (iI p1), .int (iI p2), .int (iI p3), .int (iI p4)].toArray) s 0 0 (sk_A G)) (F0 m 136 ls []) := by
    intro v5 v6 I hr_v5 hr_v6 hM H locs ls hw hl
    unfold L_Mo_scene_136 at hM
    obtain ⟨X_136, hX_136⟩ : ∃ X : Int → sk_S → Prop, ∀ (v6 : Int) (I : sk_S), X v6 I ↔ (rI v6 → ∀ (H : Heap) (locs : List Loc) (ls : Array Slot), sk_W G 198 sk_t I s H locs → lv_has ls 7 [(0, .ref (sk_ad G 158)), (5, .int (iI v5)), (6, .int (iI v6))] → W p l e (headSpec wsX12_scene rmX12_scene).room s m ([.ref (sk_ad G 158), .int (iI p1), .int (iI p2), .int (iI p3), .int (iI p4)].toArray) below meth c H locs 0 0 (MQ below (sk_Qi G 198 sk_t Q) ([.ref (sk_ad G 158), .int (iI p1), .int (iI p2), .int (iI p3), .int (iI p4)].toArray) s 0 0 (sk_A G)) (F0 m 136 ls [])) := ⟨_, fun _ _ => Iff.rfl⟩
    refine (hX_136 v6 I).1 (hM X_136 (fun v6 I hM => (hX_136 v6 I).2 (fun hr_v6 H locs ls hw hl => ?_))) hr_v6 H locs ls hw hl
    refine lv_iload hx hb (okX12_scene (136, .iload 6, 2) (List.mem_of_getElem? (i := 75) rfl)) (lv_at hl 2 rfl) ?_
    refine lv_aload_n hx hb (okX12_scene (138, .aload_n 0, 1) (List.mem_of_getElem? (i := 76) rfl)) rfl (lv_at hl 0 rfl) ?_
    have hr12 := hw.1.2.2 158 8
    refine sk_geti S hK hw kdn_158 (kd_in kdn_158) (C := RX12) (T := TX12) (N := 53) rfl hI12 8 ⟨by decide, rfl, by decide, rfl⟩ rfl (k' := 8) rfl hL4 (okX12_scene (139, .getfield 140, 3) (List.mem_of_getElem? (i := 77) rfl)) ?_
    refine sk_icmp_ge (tgt := 177) hx hb hr_v6 hr12 (okX12_scene (142, .if_icmp .ge 35, 3) (List.mem_of_getElem? (i := 78) rfl)) (by decide) (fun c142 => ?_) (fun c142 => ?_)
    · have hM := hM.1 c142
      refine lv_iload hx hb (okX12_scene (177, .iload 5, 2) (List.mem_of_getElem? (i := 96) rfl)) (lv_at hl 1 rfl) ?_
      exact sk_iret hx hb hr0 hlocks hK hw hr_v5 hM (okX12_scene (179, .ireturn, 1) (List.mem_of_getElem? (i := 97) rfl))
    · have hM := hM.2 c142
      refine lv_aload_n hx hb (okX12_scene (145, .aload_n 0, 1) (List.mem_of_getElem? (i := 79) rfl)) rfl (lv_at hl 0 rfl) ?_
      refine sk_getr (b := 189) S hK hw kdn_158 (kd_in kdn_158) (C := RX12) (T := TX12) (N := 53) rfl hI12 39 ⟨by decide, rfl, by decide, rfl⟩ rfl (k' := 39) rfl rfl (by decide +kernel) hL10 (okX12_scene (146, .getfield 104, 3) (List.mem_of_getElem? (i := 80) rfl)) ?_
      refine lv_bipush (v := iI 10) hx hb (okX12_scene (149, .bipush 10, 2) (List.mem_of_getElem? (i := 81) rfl)) (by decide +kernel) ?_
      refine lv_iload hx hb (okX12_scene (151, .iload 5, 2) (List.mem_of_getElem? (i := 82) rfl)) (lv_at hl 1 rfl) ?_
      refine sk_imul hx hb (okX12_scene (153, .imul, 1) (List.mem_of_getElem? (i := 83) rfl)) ?_
      refine lv_iload hx hb (okX12_scene (154, .iload 6, 2) (List.mem_of_getElem? (i := 84) rfl)) (lv_at hl 2 rfl) ?_
      refine sk_iadd hx hb (okX12_scene (156, .iadd, 1) (List.mem_of_getElem? (i := 85) rfl)) ?_
      refine lv_aload_n hx hb (okX12_scene (157, .aload_n 0, 1) (List.mem_of_getElem? (i := 86) rfl)) rfl (lv_at hl 0 rfl) ?_
      refine sk_getr (b := 180) S hK hw kdn_158 (kd_in kdn_158) (C := RX12) (T := TX12) (N := 53) rfl hI12 30 ⟨by decide, rfl, by decide, rfl⟩ rfl (k' := 30) rfl rfl (by decide +kernel) hL11 (okX12_scene (158, .getfield 77, 3) (List.mem_of_getElem? (i := 87) rfl)) ?_
      refine lv_aload_n hx hb (okX12_scene (161, .aload_n 0, 1) (List.mem_of_getElem? (i := 88) rfl)) rfl (lv_at hl 0 rfl) ?_
      refine lv_iload hx hb (okX12_scene (162, .iload 6, 2) (List.mem_of_getElem? (i := 89) rfl)) (lv_at hl 2 rfl) ?_
      refine lv_iload hx hb (okX12_scene (164, .iload 5, 2) (List.mem_of_getElem? (i := 90) rfl)) (lv_at hl 1 rfl) ?_
      refine sk_ci (sk_runV (a := 158) (C := RX12) (As := [.int (iI v6), .int (iI v5)]) (rest := [.ref (sk_ad G 180), .int (iI ((10 * v5) + v6)), .ref (sk_ad G 189)]) S (c_Mo_pointAhead l G hr_v6 hr_v5 hM) sk_blind gX12_scene_X12_pointAhead rfl hdX12_pointAhead ⟨⟨rfl, rfl⟩, Nat.le_of_ble_eq_true rfl, Nat.le_of_ble_eq_true rfl⟩ (sk_recv hK hw kdn_158 (kd_in kdn_158) (by decide) rfl) (sk_pre hK hw) rfl hl.1 rfl (Nat.le_of_ble_eq_true rfl) (okX12_scene (166, .invokevirtual 279, 3) (List.mem_of_getElem? (i := 91) rfl)) ⟨Nat.zero_le _, Nat.zero_le _⟩) hw (fun r_166 I_166 H locs hr_r_166 hM hw => ?_)
      obtain ⟨hi13, hM⟩ := hM
      have hr14 := hw.1.2.2 180 r_166
      refine sk_ild S hK hw kdn_180 (kd_in kdn_180) (by rw [lnn_180]; exact hi13) (okX12_scene (169, .iaload, 1) (List.mem_of_getElem? (i := 92) rfl)) ?_
      obtain ⟨hi15, hM⟩ := hM
      refine sk_ist S hK hw kdn_189 (kd_in kdn_189) (by rw [lnn_189]; exact hi15) hr14 (okX12_scene (170, .iastore, 1) (List.mem_of_getElem? (i := 93) rfl)) (fun H locs hw => ?_)
      obtain ⟨hr16, hM⟩ := hM
      obtain ⟨v6_171, ev6_171⟩ : ∃ y : Int, y = v6 + 1 := ⟨_, rfl⟩
      have hM := hM v6_171 ev6_171
      have hr_v6_171 : rI v6_171 := by rw [ev6_171]; exact hr16
      refine lv_iinc (v := iI v6_171) (lv' := [(6, .int (iI v6_171)), (0, .ref (sk_ad G 158)), (5, .int (iI v5))]) hx hb (okX12_scene (171, .iinc 6 1, 3) (List.mem_of_getElem? (i := 94) rfl)) hl (k := 2) rfl (by rw [ev6_171]; exact iI_add _ _) (by decide) rfl (fun ls hl => ?_)
      refine lv_goto (tgt := 136) hx hb (okX12_scene (174, .goto (-38), 3) (List.mem_of_getElem? (i := 95) rfl)) (by decide) ?_
      exact (hX_136 v6_171 (up I_166 189 ((10 * v5) + v6) (I_166 180 r_166))).1 hM hr_v6_171 H locs ls hw (lv_sub hl [1, 2, 0] rfl)
  unfold M_Mo_scene at hM
  intro H locs hw
  refine lv_aload_n hx hb (okX12_scene (0, .aload_n 0, 1) (List.mem_of_getElem? (i := 0) rfl)) rfl (lv_at hl 0 rfl) ?_
  refine lv_iload_n hx hb (okX12_scene (1, .iload_n 1, 1) (List.mem_of_getElem? (i := 1) rfl)) rfl (lv_at hl 1 rfl) ?_
  refine sk_ci (sk_runV (a := 158) (C := RX12) (As := [.int (iI p1)]) (rest := []) S (c_Mo_isFigure l G hr_p1 hM) sk_blind gX12_scene_X12_isFigure rfl hdX12_isFigure ⟨⟨rfl, rfl⟩, Nat.le_of_ble_eq_true rfl, Nat.le_of_ble_eq_true rfl⟩ (sk_recv hK hw kdn_158 (kd_in kdn_158) (by decide) rfl) (sk_pre hK hw) rfl hl.1 rfl (Nat.le_of_ble_eq_true rfl) (okX12_scene (2, .invokevirtual 200, 3) (List.mem_of_getElem? (i := 2) rfl)) ⟨Nat.zero_le _, Nat.zero_le _⟩) hw (fun r_2 I_2 H locs hr_r_2 hM hw => ?_)
  obtain ⟨hb_r_2, hM⟩ := hM
  refine sk_if_ne (tgt := 10) hx hb hr_r_2 (okX12_scene (5, .ifCond .ne 5, 3) (List.mem_of_getElem? (i := 3) rfl)) (by decide) (fun c5 => ?_) (fun c5 => ?_)
  · have hM := hM.1 c5
    refine lv_iload_n hx hb (okX12_scene (10, .iload_n 2, 1) (List.mem_of_getElem? (i := 6) rfl)) rfl (lv_at hl 2 rfl) ?_
    refine sk_i2l hx hb hr_p2 (okX12_scene (11, .i2l, 1) (List.mem_of_getElem? (i := 7) rfl)) ?_
    refine lv_lconst (v := lI 1) hx hb (okX12_scene (12, .lconst 1, 1) (List.mem_of_getElem? (i := 8) rfl)) (by decide +kernel) ?_
    refine lv_ldc2 (v := lI 30) hx hb hown (by rw [show lI 30 = (30 : Int64) from by decide +kernel]; exact hL0) (okX12_scene (13, .ldc2_w 251, 3) (List.mem_of_getElem? (i := 9) rfl)) ?_
    refine sk_ci (sk_runS (As := [.long (lI p2), .long (lI 1), .long (lI 30)]) (rest := []) S (c_Mo_isIn l G ⟨Int.le_trans (by decide) (hr_p2).1, Int.lt_trans (hr_p2).2 (by decide)⟩ (by decide) (by decide) hM) sk_blind gX12_scene_X12_isIn rfl hdX12_isIn ⟨⟨rfl, rfl⟩, Nat.le_of_ble_eq_true rfl, Nat.le_of_ble_eq_true rfl⟩ (sk_pre hK hw) rfl hl.1 rfl (Nat.le_of_ble_eq_true rfl) (okX12_scene (16, .invokestatic 150, 3) (List.mem_of_getElem? (i := 10) rfl)) ⟨Nat.zero_le _, Nat.zero_le _⟩) hw (fun r_16 I_16 H locs hr_r_16 hM hw => ?_)
    obtain ⟨hb_r_16, hM⟩ := hM
    refine sk_if_eq (tgt := 47) hx hb hr_r_16 (okX12_scene (19, .ifCond .eq 28, 3) (List.mem_of_getElem? (i := 11) rfl)) (by decide) (fun c19 => ?_) (fun c19 => ?_)
    · have hM := hM.1 c19
      refine lv_bipush (v := iI (-2)) hx hb (okX12_scene (47, .bipush (-2), 2) (List.mem_of_getElem? (i := 24) rfl)) (by decide +kernel) ?_
      exact sk_iret hx hb hr0 hlocks hK hw (by decide) hM (okX12_scene (49, .ireturn, 1) (List.mem_of_getElem? (i := 25) rfl))
    · have hM := hM.2 c19
      refine lv_iload_n hx hb (okX12_scene (22, .iload_n 3, 1) (List.mem_of_getElem? (i := 12) rfl)) rfl (lv_at hl 3 rfl) ?_
      refine sk_i2l hx hb hr_p3 (okX12_scene (23, .i2l, 1) (List.mem_of_getElem? (i := 13) rfl)) ?_
      refine lv_lconst (v := lI 0) hx hb (okX12_scene (24, .lconst 0, 1) (List.mem_of_getElem? (i := 14) rfl)) (by decide +kernel) ?_
      refine lv_ldc2 (v := lI 100) hx hb hown (by rw [show lI 100 = (100 : Int64) from by decide +kernel]; exact hL1) (okX12_scene (25, .ldc2_w 208, 3) (List.mem_of_getElem? (i := 15) rfl)) ?_
      refine sk_ci (sk_runS (As := [.long (lI p3), .long (lI 0), .long (lI 100)]) (rest := []) S (c_Mo_isIn l G ⟨Int.le_trans (by decide) (hr_p3).1, Int.lt_trans (hr_p3).2 (by decide)⟩ (by decide) (by decide) hM) sk_blind gX12_scene_X12_isIn rfl hdX12_isIn ⟨⟨rfl, rfl⟩, Nat.le_of_ble_eq_true rfl, Nat.le_of_ble_eq_true rfl⟩ (sk_pre hK hw) rfl hl.1 rfl (Nat.le_of_ble_eq_true rfl) (okX12_scene (28, .invokestatic 150, 3) (List.mem_of_getElem? (i := 16) rfl)) ⟨Nat.zero_le _, Nat.zero_le _⟩) hw (fun r_28 I_28 H locs hr_r_28 hM hw => ?_)
      obtain ⟨hb_r_28, hM⟩ := hM
      refine sk_if_eq (tgt := 47) hx hb hr_r_28 (okX12_scene (31, .ifCond .eq 16, 3) (List.mem_of_getElem? (i := 17) rfl)) (by decide) (fun c31 => ?_) (fun c31 => ?_)
      · have hM := hM.1 c31
        refine lv_bipush (v := iI (-2)) hx hb (okX12_scene (47, .bipush (-2), 2) (List.mem_of_getElem? (i := 24) rfl)) (by decide +kernel) ?_
        exact sk_iret hx hb hr0 hlocks hK hw (by decide) hM (okX12_scene (49, .ireturn, 1) (List.mem_of_getElem? (i := 25) rfl))
      · have hM := hM.2 c31
        refine lv_iload hx hb (okX12_scene (34, .iload 4, 2) (List.mem_of_getElem? (i := 18) rfl)) (lv_at hl 4 rfl) ?_
        refine sk_i2l hx hb hr_p4 (okX12_scene (36, .i2l, 1) (List.mem_of_getElem? (i := 19) rfl)) ?_
        refine lv_lconst (v := lI 0) hx hb (okX12_scene (37, .lconst 0, 1) (List.mem_of_getElem? (i := 20) rfl)) (by decide +kernel) ?_
        refine lv_ldc2 (v := lI 255) hx hb hown (by rw [show lI 255 = (255 : Int64) from by decide +kernel]; exact hL2) (okX12_scene (38, .ldc2_w 164, 3) (List.mem_of_getElem? (i := 21) rfl)) ?_
        refine sk_ci (sk_runS (As := [.long (lI p4), .long (lI 0), .long (lI 255)]) (rest := []) S (c_Mo_isIn l G ⟨Int.le_trans (by decide) (hr_p4).1, Int.lt_trans (hr_p4).2 (by decide)⟩ (by decide) (by decide) hM) sk_blind gX12_scene_X12_isIn rfl hdX12_isIn ⟨⟨rfl, rfl⟩, Nat.le_of_ble_eq_true rfl, Nat.le_of_ble_eq_true rfl⟩ (sk_pre hK hw) rfl hl.1 rfl (Nat.le_of_ble_eq_true rfl) (okX12_scene (41, .invokestatic 150, 3) (List.mem_of_getElem? (i := 22) rfl)) ⟨Nat.zero_le _, Nat.zero_le _⟩) hw (fun r_41 I_41 H locs hr_r_41 hM hw => ?_)
        obtain ⟨hb_r_41, hM⟩ := hM
        refine sk_if_ne (tgt := 50) hx hb hr_r_41 (okX12_scene (44, .ifCond .ne 6, 3) (List.mem_of_getElem? (i := 23) rfl)) (by decide) (fun c44 => ?_) (fun c44 => ?_)
        · have hM := hM.1 c44
          refine lv_aload_n hx hb (okX12_scene (50, .aload_n 0, 1) (List.mem_of_getElem? (i := 26) rfl)) rfl (lv_at hl 0 rfl) ?_
          refine sk_getr (b := 162) S hK hw kdn_158 (kd_in kdn_158) (C := RX12) (T := TX12) (N := 53) rfl hI12 3 ⟨by decide, rfl, by decide, rfl⟩ rfl (k' := 3) rfl rfl (by decide +kernel) hL3 (okX12_scene (51, .getfield 19, 3) (List.mem_of_getElem? (i := 27) rfl)) ?_
          refine lv_iload_n hx hb (okX12_scene (54, .iload_n 1, 1) (List.mem_of_getElem? (i := 28) rfl)) rfl (lv_at hl 1 rfl) ?_
          obtain ⟨hi1, hM⟩ := hM
          have hr2 := hw.1.2.2 162 p1
          refine sk_ild S hK hw kdn_162 (kd_in kdn_162) (by rw [lnn_162]; exact hi1) (okX12_scene (55, .iaload, 1) (List.mem_of_getElem? (i := 29) rfl)) ?_
          refine lv_aload_n hx hb (okX12_scene (56, .aload_n 0, 1) (List.mem_of_getElem? (i := 30) rfl)) rfl (lv_at hl 0 rfl) ?_
          have hr3 := hw.1.2.2 158 8
          refine sk_geti S hK hw kdn_158 (kd_in kdn_158) (C := RX12) (T := TX12) (N := 53) rfl hI12 8 ⟨by decide, rfl, by decide, rfl⟩ rfl (k' := 8) rfl hL4 (okX12_scene (57, .getfield 140, 3) (List.mem_of_getElem? (i := 31) rfl)) ?_
          refine sk_icmp_eq (tgt := 66) hx hb hr2 hr3 (okX12_scene (60, .if_icmp .eq 6, 3) (List.mem_of_getElem? (i := 32) rfl)) (by decide) (fun c60 => ?_) (fun c60 => ?_)
          · have hM := hM.1 c60
            refine lv_aload_n hx hb (okX12_scene (66, .aload_n 0, 1) (List.mem_of_getElem? (i := 35) rfl)) rfl (lv_at hl 0 rfl) ?_
            have hr4 := hw.1.2.2 158 41
            refine sk_geti S hK hw kdn_158 (kd_in kdn_158) (C := RX12) (T := TX12) (N := 53) rfl hI12 41 ⟨by decide, rfl, by decide, rfl⟩ rfl (k' := 41) rfl hL5 (okX12_scene (67, .getfield 156, 3) (List.mem_of_getElem? (i := 36) rfl)) ?_
            refine lv_bipush (v := iI 12) hx hb (okX12_scene (70, .bipush 12, 2) (List.mem_of_getElem? (i := 37) rfl)) (by decide +kernel) ?_
            refine sk_icmp_ne (tgt := 78) hx hb hr4 (by decide) (okX12_scene (72, .if_icmp .ne 6, 3) (List.mem_of_getElem? (i := 38) rfl)) (by decide) (fun c72 => ?_) (fun c72 => ?_)
            · have hM := hM.1 c72
              refine lv_aload_n hx hb (okX12_scene (78, .aload_n 0, 1) (List.mem_of_getElem? (i := 41) rfl)) rfl (lv_at hl 0 rfl) ?_
              have hr5 := hw.1.2.2 158 41
              refine sk_geti S hK hw kdn_158 (kd_in kdn_158) (C := RX12) (T := TX12) (N := 53) rfl hI12 41 ⟨by decide, rfl, by decide, rfl⟩ rfl (k' := 41) rfl hL5 (okX12_scene (79, .getfield 156, 3) (List.mem_of_getElem? (i := 42) rfl)) ?_
              refine sk_nm (fun v5_82 ev5_82 => ?_)
              have hM := hM v5_82 ev5_82
              have hr_v5_82 : rI v5_82 := by rw [ev5_82]; exact hr5
              refine lv_istore (lv' := [(5, .int (iI v5_82)), (0, .ref (sk_ad G 158)), (1, .int (iI p1)), (2, .int (iI p2)), (3, .int (iI p3)), (4, .int (iI p4))]) hx hb (okX12_scene (82, .istore 5, 2) (List.mem_of_getElem? (i := 43) rfl)) hl (by decide) rfl (fun ls hl => ?_)
              refine lv_aload_n hx hb (okX12_scene (84, .aload_n 0, 1) (List.mem_of_getElem? (i := 44) rfl)) rfl (lv_at hl 1 rfl) ?_
              refine sk_getr (b := 185) S hK hw kdn_158 (kd_in kdn_158) (C := RX12) (T := TX12) (N := 53) rfl hI12 35 ⟨by decide, rfl, by decide, rfl⟩ rfl (k' := 35) rfl rfl (by decide +kernel) hL6 (okX12_scene (85, .getfield 92, 3) (List.mem_of_getElem? (i := 45) rfl)) ?_
              refine lv_iload hx hb (okX12_scene (88, .iload 5, 2) (List.mem_of_getElem? (i := 46) rfl)) (lv_at hl 0 rfl) ?_
              refine lv_iload_n hx hb (okX12_scene (90, .iload_n 1, 1) (List.mem_of_getElem? (i := 47) rfl)) rfl (lv_at hl 2 rfl) ?_
              obtain ⟨hi6, hM⟩ := hM
              refine sk_ist S hK hw kdn_185 (kd_in kdn_185) (by rw [lnn_185]; exact hi6) hr_p1 (okX12_scene (91, .iastore, 1) (List.mem_of_getElem? (i := 48) rfl)) (fun H locs hw => ?_)
              refine lv_aload_n hx hb (okX12_scene (92, .aload_n 0, 1) (List.mem_of_getElem? (i := 49) rfl)) rfl (lv_at hl 1 rfl) ?_
              refine sk_getr (b := 186) S hK hw kdn_158 (kd_in kdn_158) (C := RX12) (T := TX12) (N := 53) rfl hI12 36 ⟨by decide, rfl, by decide, rfl⟩ rfl (k' := 36) rfl rfl (by decide +kernel) hL7 (okX12_scene (93, .getfield 95, 3) (List.mem_of_getElem? (i := 50) rfl)) ?_
              refine lv_iload hx hb (okX12_scene (96, .iload 5, 2) (List.mem_of_getElem? (i := 51) rfl)) (lv_at hl 0 rfl) ?_
              refine lv_iload_n hx hb (okX12_scene (98, .iload_n 2, 1) (List.mem_of_getElem? (i := 52) rfl)) rfl (lv_at hl 3 rfl) ?_
              obtain ⟨hi7, hM⟩ := hM
              refine sk_ist S hK hw kdn_186 (kd_in kdn_186) (by rw [lnn_186]; exact hi7) hr_p2 (okX12_scene (99, .iastore, 1) (List.mem_of_getElem? (i := 53) rfl)) (fun H locs hw => ?_)
              refine lv_aload_n hx hb (okX12_scene (100, .aload_n 0, 1) (List.mem_of_getElem? (i := 54) rfl)) rfl (lv_at hl 1 rfl) ?_
              refine sk_getr (b := 187) S hK hw kdn_158 (kd_in kdn_158) (C := RX12) (T := TX12) (N := 53) rfl hI12 37 ⟨by decide, rfl, by decide, rfl⟩ rfl (k' := 37) rfl rfl (by decide +kernel) hL8 (okX12_scene (101, .getfield 98, 3) (List.mem_of_getElem? (i := 55) rfl)) ?_
              refine lv_iload hx hb (okX12_scene (104, .iload 5, 2) (List.mem_of_getElem? (i := 56) rfl)) (lv_at hl 0 rfl) ?_
              refine lv_iload_n hx hb (okX12_scene (106, .iload_n 3, 1) (List.mem_of_getElem? (i := 57) rfl)) rfl (lv_at hl 4 rfl) ?_
              obtain ⟨hi8, hM⟩ := hM
              refine sk_ist S hK hw kdn_187 (kd_in kdn_187) (by rw [lnn_187]; exact hi8) hr_p3 (okX12_scene (107, .iastore, 1) (List.mem_of_getElem? (i := 58) rfl)) (fun H locs hw => ?_)
              refine lv_aload_n hx hb (okX12_scene (108, .aload_n 0, 1) (List.mem_of_getElem? (i := 59) rfl)) rfl (lv_at hl 1 rfl) ?_
              refine sk_getr (b := 188) S hK hw kdn_158 (kd_in kdn_158) (C := RX12) (T := TX12) (N := 53) rfl hI12 38 ⟨by decide, rfl, by decide, rfl⟩ rfl (k' := 38) rfl rfl (by decide +kernel) hL9 (okX12_scene (109, .getfield 101, 3) (List.mem_of_getElem? (i := 60) rfl)) ?_
              refine lv_iload hx hb (okX12_scene (112, .iload 5, 2) (List.mem_of_getElem? (i := 61) rfl)) (lv_at hl 0 rfl) ?_
              refine lv_iload hx hb (okX12_scene (114, .iload 4, 2) (List.mem_of_getElem? (i := 62) rfl)) (lv_at hl 5 rfl) ?_
              obtain ⟨hi9, hM⟩ := hM
              refine sk_ist S hK hw kdn_188 (kd_in kdn_188) (by rw [lnn_188]; exact hi9) hr_p4 (okX12_scene (116, .iastore, 1) (List.mem_of_getElem? (i := 63) rfl)) (fun H locs hw => ?_)
              refine lv_aload_n hx hb (okX12_scene (117, .aload_n 0, 1) (List.mem_of_getElem? (i := 64) rfl)) rfl (lv_at hl 1 rfl) ?_
              refine lv_dup hx hb (okX12_scene (118, .dup, 1) (List.mem_of_getElem? (i := 65) rfl)) rfl ?_
              have hr10 := hw.1.2.2 158 41
              refine sk_geti S hK hw kdn_158 (kd_in kdn_158) (C := RX12) (T := TX12) (N := 53) rfl hI12 41 ⟨by decide, rfl, by decide, rfl⟩ rfl (k' := 41) rfl hL5 (okX12_scene (119, .getfield 156, 3) (List.mem_of_getElem? (i := 66) rfl)) ?_
              refine lv_iconst (v := iI 1) hx hb (okX12_scene (122, .iconst 1, 1) (List.mem_of_getElem? (i := 67) rfl)) rfl ?_
              refine sk_iadd hx hb (okX12_scene (123, .iadd, 1) (List.mem_of_getElem? (i := 68) rfl)) ?_
              obtain ⟨hr11, hM⟩ := hM
              refine sk_put S hK hw kdn_158 (kd_in kdn_158) (C := RX12) (T := TX12) (N := 53) rfl hI12 tyX12 tyX12_ok nmX12 41 ⟨by decide, rfl, by decide, rfl⟩ rfl rfl (k' := 41) rfl hr11 ⟨rfl, rfl⟩ hL5 (okX12_scene (124, .putfield 156, 3) (List.mem_of_getElem? (i := 69) rfl)) (fun H locs hw => ?_)
              refine lv_aload_n hx hb (okX12_scene (127, .aload_n 0, 1) (List.mem_of_getElem? (i := 70) rfl)) rfl (lv_at hl 1 rfl) ?_
              refine lv_iload hx hb (okX12_scene (128, .iload 5, 2) (List.mem_of_getElem? (i := 71) rfl)) (lv_at hl 0 rfl) ?_
              refine sk_cv (sk_runV (a := 158) (C := RX12) (As := [.int (iI v5_82)]) (rest := []) S (c_Mo_looksAt l G hr_v5_82 hM) sk_blind gX12_scene_X12_looksAt rfl hdX12_looksAt ⟨⟨rfl, rfl⟩, Nat.le_of_ble_eq_true rfl, Nat.le_of_ble_eq_true rfl⟩ (sk_recv hK hw kdn_158 (kd_in kdn_158) (by decide) rfl) (sk_pre hK hw) rfl hl.1 rfl (Nat.le_of_ble_eq_true rfl) (okX12_scene (130, .invokevirtual 275, 3) (List.mem_of_getElem? (i := 72) rfl)) ⟨Nat.zero_le _, Nat.zero_le _⟩) hw (fun I_130 H locs hM hw => ?_)
              refine lv_iconst (v := iI 0) hx hb (okX12_scene (133, .iconst 0, 1) (List.mem_of_getElem? (i := 73) rfl)) rfl ?_
              refine lv_istore (lv' := [(6, .int (iI 0)), (5, .int (iI v5_82)), (0, .ref (sk_ad G 158)), (1, .int (iI p1)), (2, .int (iI p2)), (3, .int (iI p3)), (4, .int (iI p4))]) hx hb (okX12_scene (134, .istore 6, 2) (List.mem_of_getElem? (i := 74) rfl)) hl (by decide) rfl (fun ls hl => ?_)
              exact hJ_136 v5_82 0 I_130 hr_v5_82 (by decide) hM H locs ls hw (lv_sub hl [2, 1, 0] rfl)
            · have hM := hM.2 c72
              refine lv_bipush (v := iI (-4)) hx hb (okX12_scene (75, .bipush (-4), 2) (List.mem_of_getElem? (i := 39) rfl)) (by decide +kernel) ?_
              exact sk_iret hx hb hr0 hlocks hK hw (by decide) hM (okX12_scene (77, .ireturn, 1) (List.mem_of_getElem? (i := 40) rfl))
          · have hM := hM.2 c60
            refine lv_bipush (v := iI (-3)) hx hb (okX12_scene (63, .bipush (-3), 2) (List.mem_of_getElem? (i := 33) rfl)) (by decide +kernel) ?_
            exact sk_iret hx hb hr0 hlocks hK hw (by decide) hM (okX12_scene (65, .ireturn, 1) (List.mem_of_getElem? (i := 34) rfl))
        · have hM := hM.2 c44
          refine lv_bipush (v := iI (-2)) hx hb (okX12_scene (47, .bipush (-2), 2) (List.mem_of_getElem? (i := 24) rfl)) (by decide +kernel) ?_
          exact sk_iret hx hb hr0 hlocks hK hw (by decide) hM (okX12_scene (49, .ireturn, 1) (List.mem_of_getElem? (i := 25) rfl))
  · have hM := hM.2 c5
    refine lv_iconst (v := iI (-1)) hx hb (okX12_scene (8, .iconst (-1), 1) (List.mem_of_getElem? (i := 4) rfl)) rfl ?_
    exact sk_iret hx hb hr0 hlocks hK hw (by decide) hM (okX12_scene (9, .ireturn, 1) (List.mem_of_getElem? (i := 5) rfl))
def rmX12_spread : Room := { frames := 3, cells := 0, slots := 0, locals := 163 }
set_option maxHeartbeats 4000000 in
set_option maxRecDepth 100000 in
theorem c_Mo_spread (l : Launch) (G : sk_G) {p1 : Int} (hr_p1 : rI p1) {Q : Int → sk_S → Prop} {I : sk_S} (hM : M_Mo_spread p1 Q I) : Met l yX12_spread wsX12_spread rmX12_spread (va_Pc [.ref (sk_ad G 158), .int (iI p1)] (sk_U G 198 sk_t I)) (sk_Qi G 198 sk_t Q) 0 0 (sk_A G) := by
  refine Met.ofW (cc := cX12_spread) (maxL := 2) (ret := (some .int)) (by decide) rfl ?_
  intro p e s m args below meth c s₁ B hml hv
  obtain ⟨rfl, hU, hK⟩ := hv
  have hx := B.exec
  have hb := B.bytes
  have hr0 := B.returns
  have hts := atoms_spec (ws := wsX12_spread) B.pre
  have hown : s.vm.findClass RX12 = some m.cls := findClass_of_methodNamed B.named
  have hlocks := B.notSynchronized
  have S : CallFix p m c cX12_spread 2 s ([.ref (sk_ad G 158), .int (iI p1)].toArray) wsX12_spread RX12 := ⟨hx, hb, hml, hown, hts⟩
  have hw : sk_W G 198 sk_t I s s.heap [] := ⟨hU, va_S.rf⟩
  have hl := lv_entry ([.ref (sk_ad G 158), .int (iI p1)]) (n := 2) (Nat.le_of_ble_eq_true rfl)
  rw [lg_entry_eq]
  generalize (lg_sl ([.ref (sk_ad G 158), .int (iI p1)]) ++ List.replicate (2 - (lg_sl ([.ref (sk_ad G 158), .int (iI p1)])).length) Slot.unset).toArray = ls at hl ⊢
  have hl : lv_has ls 2 [(0, .ref (sk_ad G 158)), (1, .int (iI p1))] := hl
  suffices hgo : ∀ (H : Heap) (locs : List Loc), sk_W G 198 sk_t I s H locs → W p l e (headSpec wsX12_spread rmX12_spread).room s m ([.ref (sk_ad G 158), .int (iI p1)].toArray) below meth c H locs 0 0 (MQ below (sk_Qi G 198 sk_t Q) ([.ref (sk_ad G 158), .int (iI p1)].toArray) s 0 0 (sk_A G)) (F0 m 0 ls []) from hgo _ _ hw
  unfold M_Mo_spread at hM
  intro H locs hw
  refine lv_aload_n hx hb (okX12_spread (0, .aload_n 0, 1) (List.mem_of_getElem? (i := 0) rfl)) rfl (lv_at hl 0 rfl) ?_
  refine lv_iload_n hx hb (okX12_spread (1, .iload_n 1, 1) (List.mem_of_getElem? (i := 1) rfl)) rfl (lv_at hl 1 rfl) ?_
  refine sk_ci (sk_runV (a := 158) (C := RX12) (As := [.int (iI p1)]) (rest := []) S (c_Mo_isFigure l G hr_p1 hM) sk_blind gX12_spread_X12_isFigure rfl hdX12_isFigure ⟨⟨rfl, rfl⟩, Nat.le_of_ble_eq_true rfl, Nat.le_of_ble_eq_true rfl⟩ (sk_recv hK hw kdn_158 (kd_in kdn_158) (by decide) rfl) (sk_pre hK hw) rfl hl.1 rfl (Nat.le_of_ble_eq_true rfl) (okX12_spread (2, .invokevirtual 200, 3) (List.mem_of_getElem? (i := 2) rfl)) ⟨Nat.zero_le _, Nat.zero_le _⟩) hw (fun r_2 I_2 H locs hr_r_2 hM hw => ?_)
  obtain ⟨hb_r_2, hM⟩ := hM
  refine sk_if_eq (tgt := 16) hx hb hr_r_2 (okX12_spread (5, .ifCond .eq 11, 3) (List.mem_of_getElem? (i := 3) rfl)) (by decide) (fun c5 => ?_) (fun c5 => ?_)
  · have hM := hM.1 c5
    refine lv_iconst (v := iI (-1)) hx hb (okX12_spread (16, .iconst (-1), 1) (List.mem_of_getElem? (i := 8) rfl)) rfl ?_
    exact sk_iret hx hb hr0 hlocks hK hw (by decide) hM (okX12_spread (17, .ireturn, 1) (List.mem_of_getElem? (i := 9) rfl))
  · have hM := hM.2 c5
    refine lv_aload_n hx hb (okX12_spread (8, .aload_n 0, 1) (List.mem_of_getElem? (i := 4) rfl)) rfl (lv_at hl 0 rfl) ?_
    refine lv_iload_n hx hb (okX12_spread (9, .iload_n 1, 1) (List.mem_of_getElem? (i := 5) rfl)) rfl (lv_at hl 1 rfl) ?_
    refine sk_ci (sk_runV (a := 158) (C := RX12) (As := [.int (iI p1)]) (rest := []) S (c_Mo_least l G hr_p1 hM) sk_blind gX12_spread_X12_least rfl hdX12_least ⟨⟨rfl, rfl⟩, Nat.le_of_ble_eq_true rfl, Nat.le_of_ble_eq_true rfl⟩ (sk_recv hK hw kdn_158 (kd_in kdn_158) (by decide) rfl) (sk_pre hK hw) rfl hl.1 rfl (Nat.le_of_ble_eq_true rfl) (okX12_spread (10, .invokevirtual 205, 3) (List.mem_of_getElem? (i := 6) rfl)) ⟨Nat.zero_le _, Nat.zero_le _⟩) hw (fun r_10 I_10 H locs hr_r_10 hM hw => ?_)
    refine lv_goto (tgt := 17) hx hb (okX12_spread (13, .goto 4, 3) (List.mem_of_getElem? (i := 7) rfl)) (by decide) ?_
    exact sk_iret hx hb hr0 hlocks hK hw hr_r_10 hM (okX12_spread (17, .ireturn, 1) (List.mem_of_getElem? (i := 9) rfl))
def rmX12_stands : Room := { frames := 1, cells := 0, slots := 0, locals := 53 }
set_option maxHeartbeats 4000000 in
set_option maxRecDepth 100000 in
theorem c_Mo_stands (l : Launch) (G : sk_G) {p1 p2 : Int} (hr_p1 : rI p1) (hr_p2 : rI p2) {Q : Int → sk_S → Prop} {I : sk_S} (hM : M_Mo_stands p1 p2 Q I) : Met l yX12_stands wsX12_stands rmX12_stands (va_Pc [.ref (sk_ad G 158), .int (iI p1), .int (iI p2)] (sk_U G 198 sk_t I)) (sk_Qi G 198 sk_t Q) 0 0 (sk_A G) := by
  refine Met.ofW (cc := cX12_stands) (maxL := 3) (ret := (some .int)) (by decide) rfl ?_
  intro p e s m args below meth c s₁ B hml hv
  obtain ⟨rfl, hU, hK⟩ := hv
  have hx := B.exec
  have hb := B.bytes
  have hr0 := B.returns
  have hts := atoms_spec (ws := wsX12_stands) B.pre
  have hown : s.vm.findClass RX12 = some m.cls := findClass_of_methodNamed B.named
  have hlocks := B.notSynchronized
  have S : CallFix p m c cX12_stands 3 s ([.ref (sk_ad G 158), .int (iI p1), .int (iI p2)].toArray) wsX12_stands RX12 := ⟨hx, hb, hml, hown, hts⟩
  have hL0 := hts (.fieldLink RX12 104 "SkyLightsModel" "standsAt" "[I") (by decide +kernel)
  have hI12 : ∀ w ∈ u_ws RX12 TX12 53, w ∈ wsX12_stands := by decide +kernel
  have hw : sk_W G 198 sk_t I s s.heap [] := ⟨hU, va_S.rf⟩
  have hl := lv_entry ([.ref (sk_ad G 158), .int (iI p1), .int (iI p2)]) (n := 3) (Nat.le_of_ble_eq_true rfl)
  rw [lg_entry_eq]
  generalize (lg_sl ([.ref (sk_ad G 158), .int (iI p1), .int (iI p2)]) ++ List.replicate (3 - (lg_sl ([.ref (sk_ad G 158), .int (iI p1), .int (iI p2)])).length) Slot.unset).toArray = ls at hl ⊢
  have hl : lv_has ls 3 [(0, .ref (sk_ad G 158)), (1, .int (iI p1)), (2, .int (iI p2))] := hl
  suffices hgo : ∀ (H : Heap) (locs : List Loc), sk_W G 198 sk_t I s H locs → W p l e (headSpec wsX12_stands rmX12_stands).room s m ([.ref (sk_ad G 158), .int (iI p1), .int (iI p2)].toArray) below meth c H locs 0 0 (MQ below (sk_Qi G 198 sk_t Q) ([.ref (sk_ad G 158), .int (iI p1), .int (iI p2)].toArray) s 0 0 (sk_A G)) (F0 m 0 ls []) from hgo _ _ hw
  unfold M_Mo_stands at hM
  intro H locs hw
  refine lv_aload_n hx hb (okX12_stands (0, .aload_n 0, 1) (List.mem_of_getElem? (i := 0) rfl)) rfl (lv_at hl 0 rfl) ?_
  refine lv_iload_n hx hb (okX12_stands (1, .iload_n 1, 1) (List.mem_of_getElem? (i := 1) rfl)) rfl (lv_at hl 1 rfl) ?_
  refine sk_ci (sk_runV (a := 158) (C := RX12) (As := [.int (iI p1)]) (rest := []) S (c_Mo_isFlyer l G hr_p1 hM) sk_blind gX12_stands_X12_isFlyer rfl hdX12_isFlyer ⟨⟨rfl, rfl⟩, Nat.le_of_ble_eq_true rfl, Nat.le_of_ble_eq_true rfl⟩ (sk_recv hK hw kdn_158 (kd_in kdn_158) (by decide) rfl) (sk_pre hK hw) rfl hl.1 rfl (Nat.le_of_ble_eq_true rfl) (okX12_stands (2, .invokevirtual 282, 3) (List.mem_of_getElem? (i := 2) rfl)) ⟨Nat.zero_le _, Nat.zero_le _⟩) hw (fun r_2 I_2 H locs hr_r_2 hM hw => ?_)
  obtain ⟨hb_r_2, hM⟩ := hM
  refine sk_if_eq (tgt := 30) hx hb hr_r_2 (okX12_stands (5, .ifCond .eq 25, 3) (List.mem_of_getElem? (i := 3) rfl)) (by decide) (fun c5 => ?_) (fun c5 => ?_)
  · have hM := hM.1 c5
    refine lv_iconst (v := iI (-1)) hx hb (okX12_stands (30, .iconst (-1), 1) (List.mem_of_getElem? (i := 17) rfl)) rfl ?_
    exact sk_iret hx hb hr0 hlocks hK hw (by decide) hM (okX12_stands (31, .ireturn, 1) (List.mem_of_getElem? (i := 18) rfl))
  · have hM := hM.2 c5
    refine lv_aload_n hx hb (okX12_stands (8, .aload_n 0, 1) (List.mem_of_getElem? (i := 4) rfl)) rfl (lv_at hl 0 rfl) ?_
    refine lv_iload_n hx hb (okX12_stands (9, .iload_n 2, 1) (List.mem_of_getElem? (i := 5) rfl)) rfl (lv_at hl 2 rfl) ?_
    refine sk_ci (sk_runV (a := 158) (C := RX12) (As := [.int (iI p2)]) (rest := []) S (c_Mo_isScene l G hr_p2 hM) sk_blind gX12_stands_X12_isScene rfl hdX12_isScene ⟨⟨rfl, rfl⟩, Nat.le_of_ble_eq_true rfl, Nat.le_of_ble_eq_true rfl⟩ (sk_recv hK hw kdn_158 (kd_in kdn_158) (by decide) rfl) (sk_pre hK hw) rfl hl.1 rfl (Nat.le_of_ble_eq_true rfl) (okX12_stands (10, .invokevirtual 285, 3) (List.mem_of_getElem? (i := 6) rfl)) ⟨Nat.zero_le _, Nat.zero_le _⟩) hw (fun r_10 I_10 H locs hr_r_10 hM hw => ?_)
    obtain ⟨hb_r_10, hM⟩ := hM
    refine sk_if_eq (tgt := 30) hx hb hr_r_10 (okX12_stands (13, .ifCond .eq 17, 3) (List.mem_of_getElem? (i := 7) rfl)) (by decide) (fun c13 => ?_) (fun c13 => ?_)
    · have hM := hM.1 c13
      refine lv_iconst (v := iI (-1)) hx hb (okX12_stands (30, .iconst (-1), 1) (List.mem_of_getElem? (i := 17) rfl)) rfl ?_
      exact sk_iret hx hb hr0 hlocks hK hw (by decide) hM (okX12_stands (31, .ireturn, 1) (List.mem_of_getElem? (i := 18) rfl))
    · have hM := hM.2 c13
      refine lv_aload_n hx hb (okX12_stands (16, .aload_n 0, 1) (List.mem_of_getElem? (i := 8) rfl)) rfl (lv_at hl 0 rfl) ?_
      refine sk_getr (b := 189) S hK hw kdn_158 (kd_in kdn_158) (C := RX12) (T := TX12) (N := 53) rfl hI12 39 ⟨by decide, rfl, by decide, rfl⟩ rfl (k' := 39) rfl rfl (by decide +kernel) hL0 (okX12_stands (17, .getfield 104, 3) (List.mem_of_getElem? (i := 9) rfl)) ?_
      refine lv_bipush (v := iI 10) hx hb (okX12_stands (20, .bipush 10, 2) (List.mem_of_getElem? (i := 10) rfl)) (by decide +kernel) ?_
      refine lv_iload_n hx hb (okX12_stands (22, .iload_n 2, 1) (List.mem_of_getElem? (i := 11) rfl)) rfl (lv_at hl 2 rfl) ?_
      refine sk_imul hx hb (okX12_stands (23, .imul, 1) (List.mem_of_getElem? (i := 12) rfl)) ?_
      refine lv_iload_n hx hb (okX12_stands (24, .iload_n 1, 1) (List.mem_of_getElem? (i := 13) rfl)) rfl (lv_at hl 1 rfl) ?_
      refine sk_iadd hx hb (okX12_stands (25, .iadd, 1) (List.mem_of_getElem? (i := 14) rfl)) ?_
      obtain ⟨hi1, hM⟩ := hM
      have hr2 := hw.1.2.2 189 ((10 * p2) + p1)
      refine sk_ild S hK hw kdn_189 (kd_in kdn_189) (by rw [lnn_189]; exact hi1) (okX12_stands (26, .iaload, 1) (List.mem_of_getElem? (i := 15) rfl)) ?_
      refine lv_goto (tgt := 31) hx hb (okX12_stands (27, .goto 4, 3) (List.mem_of_getElem? (i := 16) rfl)) (by decide) ?_
      exact sk_iret hx hb hr0 hlocks hK hw hr2 hM (okX12_stands (31, .ireturn, 1) (List.mem_of_getElem? (i := 18) rfl))
def rmX12_unclean : Room := { frames := 4, cells := 0, slots := 0, locals := 227 }
set_option maxHeartbeats 4000000 in
set_option maxRecDepth 100000 in
theorem c_Mo_unclean (l : Launch) (G : sk_G) {Q : Int → sk_S → Prop} {I : sk_S} (hM : M_Mo_unclean Q I) : Met l yX12_unclean wsX12_unclean rmX12_unclean (va_Pc [.ref (sk_ad G 158)] (sk_U G 198 sk_t I)) (sk_Qi G 198 sk_t Q) 0 0 (sk_A G) := by
  refine Met.ofW (cc := cX12_unclean) (maxL := 3) (ret := (some .int)) (by decide) rfl ?_
  intro p e s m args below meth c s₁ B hml hv
  obtain ⟨rfl, hU, hK⟩ := hv
  have hx := B.exec
  have hb := B.bytes
  have hr0 := B.returns
  have hts := atoms_spec (ws := wsX12_unclean) B.pre
  have hown : s.vm.findClass RX12 = some m.cls := findClass_of_methodNamed B.named
  have hlocks := B.notSynchronized
  have S : CallFix p m c cX12_unclean 3 s ([.ref (sk_ad G 158)].toArray) wsX12_unclean RX12 := ⟨hx, hb, hml, hown, hts⟩
  have hL0 := hts (.fieldLink RX12 156 "SkyLightsModel" "scenes" "I") (by decide +kernel)
  have hI12 : ∀ w ∈ u_ws RX12 TX12 53, w ∈ wsX12_unclean := by decide +kernel
  have hw : sk_W G 198 sk_t I s s.heap [] := ⟨hU, va_S.rf⟩
  have hl := lv_entry ([.ref (sk_ad G 158)]) (n := 3) (Nat.le_of_ble_eq_true rfl)
  rw [lg_entry_eq]
  generalize (lg_sl ([.ref (sk_ad G 158)]) ++ List.replicate (3 - (lg_sl ([.ref (sk_ad G 158)])).length) Slot.unset).toArray = ls at hl ⊢
  have hl : lv_has ls 3 [(0, .ref (sk_ad G 158))] := hl
  suffices hgo : ∀ (H : Heap) (locs : List Loc), sk_W G 198 sk_t I s H locs → W p l e (headSpec wsX12_unclean rmX12_unclean).room s m ([.ref (sk_ad G 158)].toArray) below meth c H locs 0 0 (MQ below (sk_Qi G 198 sk_t Q) ([.ref (sk_ad G 158)].toArray) s 0 0 (sk_A G)) (F0 m 0 ls []) from hgo _ _ hw
  have hJ_4 : ∀ (v1 v2 : Int) (I : sk_S), rI v1 → rI v2 → L_Mo_unclean_4 Q v1 v2 I → ∀ (H : Heap) (locs : List Loc) (ls : Array Slot), sk_W G 198 sk_t I s H locs → lv_has ls 3 [(0, .ref (sk_ad G 158)), (1, .int (iI v1)), (2, .int (iI v2))] → W p l e (headSpec wsX12_unclean rmX12_unclean).room s m ([.ref (sk_ad G 158)].toArray) below meth c H locs 0 0 (MQ below (sk_Qi G 198 sk_t Q) ([.ref (sk_ad G 158)].toArray) s 0 0 (sk_A G)) (F0 m 4 ls []) := by
    intro v1 v2 I hr_v1 hr_v2 hM H locs ls hw hl
    unfold L_Mo_unclean_4 at hM
    obtain ⟨X_4, hX_4⟩ : ∃ X : Int → Int → sk_S → Prop, ∀ (v1 v2 : Int) (I : sk_S), X v1 v2 I ↔ (rI v1 → rI v2 → ∀ (H : Heap) (locs : List Loc) (ls : Array Slot), sk_W G 198 sk_t I s H locs → lv_has ls 3 [(0, .ref (sk_ad G 158)), (1, .int (iI v1)), (2, .int (iI v2))] → W p l e (headSpec wsX12_unclean rmX12_unclean).room s m ([.ref (sk_ad G 158)].toArray) below meth c H locs 0 0 (MQ below (sk_Qi G 198 sk_t Q) ([.ref (sk_ad G 158)].toArray) s 0 0 (sk_A G)) (F0 m 4 ls [])) := ⟨_, fun _ _ _ => Iff.rfl⟩
    have hJ_51 : ∀ (v1 v2 : Int) (I : sk_S), rI v1 → rI v2 → J_Mo_unclean_51 v1 v2 Q X_4 I → ∀ (H : Heap) (locs : List Loc) (ls : Array Slot), sk_W G 198 sk_t I s H locs → lv_has ls 3 [(0, .ref (sk_ad G 158)), (1, .int (iI v1)), (2, .int (iI v2))] → W p l e (headSpec wsX12_unclean rmX12_unclean).room s m ([.ref (sk_ad G 158)].toArray) below meth c H locs 0 0 (MQ below (sk_Qi G 198 sk_t Q) ([.ref (sk_ad G 158)].toArray) s 0 0 (sk_A G)) (F0 m 51 ls []) := by
      intro v1 v2 I hr_v1 hr_v2 hM H locs ls hw hl
      unfold J_Mo_unclean_51 at hM
      obtain ⟨hr4, hM⟩ := hM
      obtain ⟨v2_51, ev2_51⟩ : ∃ y : Int, y = v2 + 1 := ⟨_, rfl⟩
      have hM := hM v2_51 ev2_51
      have hr_v2_51 : rI v2_51 := by rw [ev2_51]; exact hr4
      refine lv_iinc (v := iI v2_51) (lv' := [(2, .int (iI v2_51)), (0, .ref (sk_ad G 158)), (1, .int (iI v1))]) hx hb (okX12_unclean (51, .iinc 2 1, 3) (List.mem_of_getElem? (i := 30) rfl)) hl (k := 2) rfl (by rw [ev2_51]; exact iI_add _ _) (by decide) rfl (fun ls hl => ?_)
      refine lv_goto (tgt := 4) hx hb (okX12_unclean (54, .goto (-50), 3) (List.mem_of_getElem? (i := 31) rfl)) (by decide) ?_
      exact (hX_4 v1 v2_51 I).1 hM hr_v1 hr_v2_51 H locs ls hw (lv_sub hl [1, 2, 0] rfl)
    have hJ_48 : ∀ (v2 s0 s1 s2 : Int) (I : sk_S), rI v2 → rI s0 → rI s1 → rI s2 → J_Mo_unclean_48 v2 s0 s1 s2 Q X_4 I → ∀ (H : Heap) (locs : List Loc) (ls : Array Slot), sk_W G 198 sk_t I s H locs → lv_has ls 3 [(0, .ref (sk_ad G 158)), (2, .int (iI v2))] → W p l e (headSpec wsX12_unclean rmX12_unclean).room s m ([.ref (sk_ad G 158)].toArray) below meth c H locs 0 0 (MQ below (sk_Qi G 198 sk_t Q) ([.ref (sk_ad G 158)].toArray) s 0 0 (sk_A G)) (F0 m 48 ls [.int (iI s2), .int (iI s1), .int (iI s0)]) := by
      intro v2 s0 s1 s2 I hr_v2 hr_s0 hr_s1 hr_s2 hM H locs ls hw hl
      unfold J_Mo_unclean_48 at hM
      refine sk_ishl hx hb (okX12_unclean (48, .ishl, 1) (List.mem_of_getElem? (i := 27) rfl)) ?_
      refine sk_ior hx hb (okX12_unclean (49, .ior, 1) (List.mem_of_getElem? (i := 28) rfl)) ?_
      refine sk_nm (fun v1_50 ev1_50 => ?_)
      have hM := hM v1_50 ev1_50
      have hr_v1_50 : rI v1_50 := by rw [ev1_50]; exact (rI_of _)
      refine lv_istore_n (lv' := [(1, .int (iI v1_50)), (0, .ref (sk_ad G 158)), (2, .int (iI v2))]) hx hb (okX12_unclean (50, .istore_n 1, 1) (List.mem_of_getElem? (i := 29) rfl)) rfl hl (by decide) rfl (fun ls hl => ?_)
      exact hJ_51 v1_50 v2 I hr_v1_50 hr_v2 hM H locs ls hw (lv_sub hl [1, 0, 2] rfl)
    refine (hX_4 v1 v2 I).1 (hM X_4 (fun v1 v2 I hM => (hX_4 v1 v2 I).2 (fun hr_v1 hr_v2 H locs ls hw hl => ?_))) hr_v1 hr_v2 H locs ls hw hl
    refine lv_iload_n hx hb (okX12_unclean (4, .iload_n 2, 1) (List.mem_of_getElem? (i := 4) rfl)) rfl (lv_at hl 2 rfl) ?_
    refine lv_aload_n hx hb (okX12_unclean (5, .aload_n 0, 1) (List.mem_of_getElem? (i := 5) rfl)) rfl (lv_at hl 0 rfl) ?_
    have hr1 := hw.1.2.2 158 41
    refine sk_geti S hK hw kdn_158 (kd_in kdn_158) (C := RX12) (T := TX12) (N := 53) rfl hI12 41 ⟨by decide, rfl, by decide, rfl⟩ rfl (k' := 41) rfl hL0 (okX12_unclean (6, .getfield 156, 3) (List.mem_of_getElem? (i := 6) rfl)) ?_
    refine sk_icmp_gt (tgt := 57) hx hb hr_v2 hr1 (okX12_unclean (9, .if_icmp .gt 48, 3) (List.mem_of_getElem? (i := 7) rfl)) (by decide) (fun c9 => ?_) (fun c9 => ?_)
    · have hM := hM.1 c9
      refine lv_iload_n hx hb (okX12_unclean (57, .iload_n 1, 1) (List.mem_of_getElem? (i := 32) rfl)) rfl (lv_at hl 1 rfl) ?_
      exact sk_iret hx hb hr0 hlocks hK hw hr_v1 hM (okX12_unclean (58, .ireturn, 1) (List.mem_of_getElem? (i := 33) rfl))
    · have hM := hM.2 c9
      refine lv_aload_n hx hb (okX12_unclean (12, .aload_n 0, 1) (List.mem_of_getElem? (i := 8) rfl)) rfl (lv_at hl 0 rfl) ?_
      have hr2 := hw.1.2.2 158 41
      refine sk_geti S hK hw kdn_158 (kd_in kdn_158) (C := RX12) (T := TX12) (N := 53) rfl hI12 41 ⟨by decide, rfl, by decide, rfl⟩ rfl (k' := 41) rfl hL0 (okX12_unclean (13, .getfield 156, 3) (List.mem_of_getElem? (i := 9) rfl)) ?_
      refine sk_if_le (tgt := 57) hx hb hr2 (okX12_unclean (16, .ifCond .le 41, 3) (List.mem_of_getElem? (i := 10) rfl)) (by decide) (fun c16 => ?_) (fun c16 => ?_)
      · have hM := hM.1 c16
        refine lv_iload_n hx hb (okX12_unclean (57, .iload_n 1, 1) (List.mem_of_getElem? (i := 32) rfl)) rfl (lv_at hl 1 rfl) ?_
        exact sk_iret hx hb hr0 hlocks hK hw hr_v1 hM (okX12_unclean (58, .ireturn, 1) (List.mem_of_getElem? (i := 33) rfl))
      · have hM := hM.2 c16
        refine lv_aload_n hx hb (okX12_unclean (19, .aload_n 0, 1) (List.mem_of_getElem? (i := 11) rfl)) rfl (lv_at hl 0 rfl) ?_
        refine lv_iload_n hx hb (okX12_unclean (20, .iload_n 2, 1) (List.mem_of_getElem? (i := 12) rfl)) rfl (lv_at hl 2 rfl) ?_
        refine sk_cv (sk_runV (a := 158) (C := RX12) (As := [.int (iI v2)]) (rest := []) S (c_Mo_looksAt l G hr_v2 hM) sk_blind gX12_unclean_X12_looksAt rfl hdX12_looksAt ⟨⟨rfl, rfl⟩, Nat.le_of_ble_eq_true rfl, Nat.le_of_ble_eq_true rfl⟩ (sk_recv hK hw kdn_158 (kd_in kdn_158) (by decide) rfl) (sk_pre hK hw) rfl hl.1 rfl (Nat.le_of_ble_eq_true rfl) (okX12_unclean (21, .invokevirtual 275, 3) (List.mem_of_getElem? (i := 13) rfl)) ⟨Nat.zero_le _, Nat.zero_le _⟩) hw (fun I_21 H locs hM hw => ?_)
        refine lv_aload_n hx hb (okX12_unclean (24, .aload_n 0, 1) (List.mem_of_getElem? (i := 14) rfl)) rfl (lv_at hl 0 rfl) ?_
        refine lv_iconst (v := iI 1) hx hb (okX12_unclean (25, .iconst 1, 1) (List.mem_of_getElem? (i := 15) rfl)) rfl ?_
        refine sk_ci (sk_runV (a := 158) (C := RX12) (As := [.int (iI 1)]) (rest := []) S (c_Mo_isClean l G (by decide) hM) sk_blind gX12_unclean_X12_isClean rfl hdX12_isClean ⟨⟨rfl, rfl⟩, Nat.le_of_ble_eq_true rfl, Nat.le_of_ble_eq_true rfl⟩ (sk_recv hK hw kdn_158 (kd_in kdn_158) (by decide) rfl) (sk_pre hK hw) rfl hl.1 rfl (Nat.le_of_ble_eq_true rfl) (okX12_unclean (26, .invokevirtual 265, 3) (List.mem_of_getElem? (i := 16) rfl)) ⟨Nat.zero_le _, Nat.zero_le _⟩) hw (fun r_26 I_26 H locs hr_r_26 hM hw => ?_)
        obtain ⟨hb_r_26, hM⟩ := hM
        refine sk_if_ne (tgt := 51) hx hb hr_r_26 (okX12_unclean (29, .ifCond .ne 22, 3) (List.mem_of_getElem? (i := 17) rfl)) (by decide) (fun c29 => ?_) (fun c29 => ?_)
        · have hM := hM.1 c29
          exact hJ_51 v1 v2 I_26 hr_v1 hr_v2 hM H locs ls hw (lv_sub hl [0, 1, 2] rfl)
        · have hM := hM.2 c29
          refine lv_iload_n hx hb (okX12_unclean (32, .iload_n 1, 1) (List.mem_of_getElem? (i := 18) rfl)) rfl (lv_at hl 1 rfl) ?_
          refine lv_iconst (v := iI 1) hx hb (okX12_unclean (33, .iconst 1, 1) (List.mem_of_getElem? (i := 19) rfl)) rfl ?_
          refine lv_iload_n hx hb (okX12_unclean (34, .iload_n 2, 1) (List.mem_of_getElem? (i := 20) rfl)) rfl (lv_at hl 2 rfl) ?_
          refine lv_aload_n hx hb (okX12_unclean (35, .aload_n 0, 1) (List.mem_of_getElem? (i := 21) rfl)) rfl (lv_at hl 0 rfl) ?_
          have hr3 := hw.1.2.2 158 41
          refine sk_geti S hK hw kdn_158 (kd_in kdn_158) (C := RX12) (T := TX12) (N := 53) rfl hI12 41 ⟨by decide, rfl, by decide, rfl⟩ rfl (k' := 41) rfl hL0 (okX12_unclean (36, .getfield 156, 3) (List.mem_of_getElem? (i := 22) rfl)) ?_
          refine sk_icmp_ne (tgt := 47) hx hb hr_v2 hr3 (okX12_unclean (39, .if_icmp .ne 8, 3) (List.mem_of_getElem? (i := 23) rfl)) (by decide) (fun c39 => ?_) (fun c39 => ?_)
          · have hM := hM.1 c39
            refine lv_iload_n hx hb (okX12_unclean (47, .iload_n 2, 1) (List.mem_of_getElem? (i := 26) rfl)) rfl (lv_at hl 2 rfl) ?_
            exact hJ_48 v2 v1 1 v2 I_26 hr_v2 hr_v1 (by decide) hr_v2 hM H locs ls hw (lv_sub hl [0, 2] rfl)
          · have hM := hM.2 c39
            refine lv_bipush (v := iI 12) hx hb (okX12_unclean (42, .bipush 12, 2) (List.mem_of_getElem? (i := 24) rfl)) (by decide +kernel) ?_
            refine lv_goto (tgt := 48) hx hb (okX12_unclean (44, .goto 4, 3) (List.mem_of_getElem? (i := 25) rfl)) (by decide) ?_
            exact hJ_48 v2 v1 1 12 I_26 hr_v2 hr_v1 (by decide) (by decide) hM H locs ls hw (lv_sub hl [0, 2] rfl)
  unfold M_Mo_unclean at hM
  intro H locs hw
  refine lv_iconst (v := iI 0) hx hb (okX12_unclean (0, .iconst 0, 1) (List.mem_of_getElem? (i := 0) rfl)) rfl ?_
  refine lv_istore_n (lv' := [(1, .int (iI 0)), (0, .ref (sk_ad G 158))]) hx hb (okX12_unclean (1, .istore_n 1, 1) (List.mem_of_getElem? (i := 1) rfl)) rfl hl (by decide) rfl (fun ls hl => ?_)
  refine lv_iconst (v := iI 0) hx hb (okX12_unclean (2, .iconst 0, 1) (List.mem_of_getElem? (i := 2) rfl)) rfl ?_
  refine lv_istore_n (lv' := [(2, .int (iI 0)), (1, .int (iI 0)), (0, .ref (sk_ad G 158))]) hx hb (okX12_unclean (3, .istore_n 2, 1) (List.mem_of_getElem? (i := 3) rfl)) rfl hl (by decide) rfl (fun ls hl => ?_)
  exact hJ_4 0 0 I (by decide) (by decide) hM H locs ls hw (lv_sub hl [2, 1, 0] rfl)
def rmX12_who : Room := { frames := 0, cells := 0, slots := 0, locals := 0 }
set_option maxHeartbeats 4000000 in
set_option maxRecDepth 100000 in
theorem c_Mo_who (l : Launch) (G : sk_G) {p1 : Int} (hr_p1 : rI p1) {Q : Int → sk_S → Prop} {I : sk_S} (hM : M_Mo_who p1 Q I) : Met l yX12_who wsX12_who rmX12_who (va_Pc [.ref (sk_ad G 158), .int (iI p1)] (sk_U G 198 sk_t I)) (sk_Qi G 198 sk_t Q) 0 0 (sk_A G) := by
  refine Met.ofW (cc := cX12_who) (maxL := 2) (ret := (some .int)) (by decide) rfl ?_
  intro p e s m args below meth c s₁ B hml hv
  obtain ⟨rfl, hU, hK⟩ := hv
  have hx := B.exec
  have hb := B.bytes
  have hr0 := B.returns
  have hts := atoms_spec (ws := wsX12_who) B.pre
  have hown : s.vm.findClass RX12 = some m.cls := findClass_of_methodNamed B.named
  have hlocks := B.notSynchronized
  have S : CallFix p m c cX12_who 2 s ([.ref (sk_ad G 158), .int (iI p1)].toArray) wsX12_who RX12 := ⟨hx, hb, hml, hown, hts⟩
  have hL0 := hts (.fieldLink RX12 137 "SkyLightsModel" "whoSecond" "I") (by decide +kernel)
  have hL1 := hts (.fieldLink RX12 134 "SkyLightsModel" "whoFirst" "I") (by decide +kernel)
  have hI12 : ∀ w ∈ u_ws RX12 TX12 53, w ∈ wsX12_who := by decide +kernel
  have hw : sk_W G 198 sk_t I s s.heap [] := ⟨hU, va_S.rf⟩
  have hl := lv_entry ([.ref (sk_ad G 158), .int (iI p1)]) (n := 2) (Nat.le_of_ble_eq_true rfl)
  rw [lg_entry_eq]
  generalize (lg_sl ([.ref (sk_ad G 158), .int (iI p1)]) ++ List.replicate (2 - (lg_sl ([.ref (sk_ad G 158), .int (iI p1)])).length) Slot.unset).toArray = ls at hl ⊢
  have hl : lv_has ls 2 [(0, .ref (sk_ad G 158)), (1, .int (iI p1))] := hl
  suffices hgo : ∀ (H : Heap) (locs : List Loc), sk_W G 198 sk_t I s H locs → W p l e (headSpec wsX12_who rmX12_who).room s m ([.ref (sk_ad G 158), .int (iI p1)].toArray) below meth c H locs 0 0 (MQ below (sk_Qi G 198 sk_t Q) ([.ref (sk_ad G 158), .int (iI p1)].toArray) s 0 0 (sk_A G)) (F0 m 0 ls []) from hgo _ _ hw
  unfold M_Mo_who at hM
  intro H locs hw
  refine lv_iload_n hx hb (okX12_who (0, .iload_n 1, 1) (List.mem_of_getElem? (i := 0) rfl)) rfl (lv_at hl 1 rfl) ?_
  refine sk_if_ne (tgt := 11) hx hb hr_p1 (okX12_who (1, .ifCond .ne 10, 3) (List.mem_of_getElem? (i := 1) rfl)) (by decide) (fun c1 => ?_) (fun c1 => ?_)
  · have hM := hM.1 c1
    refine lv_iload_n hx hb (okX12_who (11, .iload_n 1, 1) (List.mem_of_getElem? (i := 5) rfl)) rfl (lv_at hl 1 rfl) ?_
    refine lv_iconst (v := iI 1) hx hb (okX12_who (12, .iconst 1, 1) (List.mem_of_getElem? (i := 6) rfl)) rfl ?_
    refine sk_icmp_ne (tgt := 23) hx hb hr_p1 (by decide) (okX12_who (13, .if_icmp .ne 10, 3) (List.mem_of_getElem? (i := 7) rfl)) (by decide) (fun c13 => ?_) (fun c13 => ?_)
    · have hM := hM.1 c13
      refine lv_iconst (v := iI (-1)) hx hb (okX12_who (23, .iconst (-1), 1) (List.mem_of_getElem? (i := 11) rfl)) rfl ?_
      exact sk_iret hx hb hr0 hlocks hK hw (by decide) hM (okX12_who (24, .ireturn, 1) (List.mem_of_getElem? (i := 12) rfl))
    · have hM := hM.2 c13
      refine lv_aload_n hx hb (okX12_who (16, .aload_n 0, 1) (List.mem_of_getElem? (i := 8) rfl)) rfl (lv_at hl 0 rfl) ?_
      have hr1 := hw.1.2.2 158 50
      refine sk_geti S hK hw kdn_158 (kd_in kdn_158) (C := RX12) (T := TX12) (N := 53) rfl hI12 50 ⟨by decide, rfl, by decide, rfl⟩ rfl (k' := 50) rfl hL0 (okX12_who (17, .getfield 137, 3) (List.mem_of_getElem? (i := 9) rfl)) ?_
      refine lv_goto (tgt := 24) hx hb (okX12_who (20, .goto 4, 3) (List.mem_of_getElem? (i := 10) rfl)) (by decide) ?_
      exact sk_iret hx hb hr0 hlocks hK hw hr1 hM (okX12_who (24, .ireturn, 1) (List.mem_of_getElem? (i := 12) rfl))
  · have hM := hM.2 c1
    refine lv_aload_n hx hb (okX12_who (4, .aload_n 0, 1) (List.mem_of_getElem? (i := 2) rfl)) rfl (lv_at hl 0 rfl) ?_
    have hr2 := hw.1.2.2 158 49
    refine sk_geti S hK hw kdn_158 (kd_in kdn_158) (C := RX12) (T := TX12) (N := 53) rfl hI12 49 ⟨by decide, rfl, by decide, rfl⟩ rfl (k' := 49) rfl hL1 (okX12_who (5, .getfield 134, 3) (List.mem_of_getElem? (i := 3) rfl)) ?_
    refine lv_goto (tgt := 24) hx hb (okX12_who (8, .goto 16, 3) (List.mem_of_getElem? (i := 4) rfl)) (by decide) ?_
    exact sk_iret hx hb hr0 hlocks hK hw hr2 hM (okX12_who (24, .ireturn, 1) (List.mem_of_getElem? (i := 12) rfl))
