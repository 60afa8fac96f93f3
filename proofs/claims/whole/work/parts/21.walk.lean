def rmX0_isNearer : Room := { frames := 0, cells := 0, slots := 0, locals := 0 }
set_option maxHeartbeats 4000000 in
set_option maxRecDepth 100000 in
theorem c_Air_isNearer (l : Launch) (G : sk_G) {p0 p2 p4 p6 p8 p10 p12 : Int} (hr_p0 : rL p0) (hr_p2 : rL p2) (hr_p4 : rL p4) (hr_p6 : rL p6) (hr_p8 : rL p8) (hr_p10 : rL p10) (hr_p12 : rL p12) {Q : Int → sk_S → Prop} {I : sk_S} (hM : M_Air_isNearer p0 p2 p4 p6 p8 p10 p12 Q I) : Met l yX0_isNearer wsX0_isNearer rmX0_isNearer (va_Pc [.long (lI p0), .long (lI p2), .long (lI p4), .long (lI p6), .long (lI p8), .long (lI p10), .long (lI p12)] (sk_U G 198 sk_t I)) (sk_Qz G 198 sk_t Q) 0 0 (sk_A G) := by
  refine Met.ofW (cc := cX0_isNearer) (maxL := 28) (ret := (some .boolean)) (by decide) rfl ?_
  intro p e s m args below meth c s₁ B hml hv
  obtain ⟨rfl, hU, hK⟩ := hv
  have hx := B.exec
  have hb := B.bytes
  have hr0 := B.returns
  have hts := atoms_spec (ws := wsX0_isNearer) B.pre
  have hown : s.vm.findClass RX0 = some m.cls := findClass_of_methodNamed B.named
  have hlocks := B.notSynchronized
  have S : CallFix p m c cX0_isNearer 28 s ([.long (lI p0), .long (lI p2), .long (lI p4), .long (lI p6), .long (lI p8), .long (lI p10), .long (lI p12)].toArray) wsX0_isNearer RX0 := ⟨hx, hb, hml, hown, hts⟩
  have hw : sk_W G 198 sk_t I s s.heap [] := ⟨hU, va_S.rf⟩
  have hl := lv_entry ([.long (lI p0), .long (lI p2), .long (lI p4), .long (lI p6), .long (lI p8), .long (lI p10), .long (lI p12)]) (n := 28) (Nat.le_of_ble_eq_true rfl)
  rw [lg_entry_eq]
  generalize (lg_sl ([.long (lI p0), .long (lI p2), .long (lI p4), .long (lI p6), .long (lI p8), .long (lI p10), .long (lI p12)]) ++ List.replicate (28 - (lg_sl ([.long (lI p0), .long (lI p2), .long (lI p4), .long (lI p6), .long (lI p8), .long (lI p10), .long (lI p12)])).length) Slot.unset).toArray = ls at hl ⊢
  have hl : lv_has ls 28 [(0, .long (lI p0)), (2, .long (lI p2)), (4, .long (lI p4)), (6, .long (lI p6)), (8, .long (lI p8)), (10, .long (lI p10)), (12, .long (lI p12))] := hl
  suffices hgo : ∀ (H : Heap) (locs : List Loc), sk_W G 198 sk_t I s H locs → W p l e (headSpec wsX0_isNearer rmX0_isNearer).room s m ([.long (lI p0), .long (lI p2), .long (lI p4), .long (lI p6), .long (lI p8), .long (lI p10), .long (lI p12)].toArray) below meth c H locs 0 0 (MQ below (sk_Qz G 198 sk_t Q) ([.long (lI p0), .long (lI p2), .long (lI p4), .long (lI p6), .long (lI p8), .long (lI p10), .long (lI p12)].toArray) s 0 0 (sk_A G)) (F0 m 0 ls []) from hgo _ _ hw
  unfold M_Air_isNearer at hM
  intro H locs hw
  refine lv_lload hx hb (okX0_isNearer (0, .lload 6, 2) (List.mem_of_getElem? (i := 0) rfl)) (lv_at hl 3 rfl) ?_
  refine lv_lload_n hx hb (okX0_isNearer (2, .lload_n 0, 1) (List.mem_of_getElem? (i := 1) rfl)) rfl (lv_at hl 0 rfl) ?_
  refine sk_lsub hx hb (okX0_isNearer (3, .lsub, 1) (List.mem_of_getElem? (i := 2) rfl)) ?_
  obtain ⟨hr1, hM⟩ := hM
  refine sk_nml (fun v14_4 ev14_4 => ?_)
  have hM := hM v14_4 ev14_4
  have hr_v14_4 : rL v14_4 := by rw [ev14_4]; exact hr1
  refine lv_lstore (lv' := [(14, .long (lI v14_4)), (0, .long (lI p0)), (2, .long (lI p2)), (4, .long (lI p4)), (6, .long (lI p6)), (8, .long (lI p8)), (10, .long (lI p10)), (12, .long (lI p12))]) hx hb (okX0_isNearer (4, .lstore 14, 2) (List.mem_of_getElem? (i := 3) rfl)) hl (by decide) rfl (fun ls hl => ?_)
  refine lv_lload hx hb (okX0_isNearer (6, .lload 8, 2) (List.mem_of_getElem? (i := 4) rfl)) (lv_at hl 5 rfl) ?_
  refine lv_lload_n hx hb (okX0_isNearer (8, .lload_n 2, 1) (List.mem_of_getElem? (i := 5) rfl)) rfl (lv_at hl 2 rfl) ?_
  refine sk_lsub hx hb (okX0_isNearer (9, .lsub, 1) (List.mem_of_getElem? (i := 6) rfl)) ?_
  obtain ⟨hr2, hM⟩ := hM
  refine sk_nml (fun v16_10 ev16_10 => ?_)
  have hM := hM v16_10 ev16_10
  have hr_v16_10 : rL v16_10 := by rw [ev16_10]; exact hr2
  refine lv_lstore (lv' := [(16, .long (lI v16_10)), (14, .long (lI v14_4)), (0, .long (lI p0)), (2, .long (lI p2)), (4, .long (lI p4)), (6, .long (lI p6)), (8, .long (lI p8)), (10, .long (lI p10)), (12, .long (lI p12))]) hx hb (okX0_isNearer (10, .lstore 16, 2) (List.mem_of_getElem? (i := 7) rfl)) hl (by decide) rfl (fun ls hl => ?_)
  refine lv_lload hx hb (okX0_isNearer (12, .lload 10, 2) (List.mem_of_getElem? (i := 8) rfl)) (lv_at hl 7 rfl) ?_
  refine lv_lload hx hb (okX0_isNearer (14, .lload 4, 2) (List.mem_of_getElem? (i := 9) rfl)) (lv_at hl 4 rfl) ?_
  refine sk_lsub hx hb (okX0_isNearer (16, .lsub, 1) (List.mem_of_getElem? (i := 10) rfl)) ?_
  obtain ⟨hr3, hM⟩ := hM
  refine sk_nml (fun v18_17 ev18_17 => ?_)
  have hM := hM v18_17 ev18_17
  have hr_v18_17 : rL v18_17 := by rw [ev18_17]; exact hr3
  refine lv_lstore (lv' := [(18, .long (lI v18_17)), (16, .long (lI v16_10)), (14, .long (lI v14_4)), (0, .long (lI p0)), (2, .long (lI p2)), (4, .long (lI p4)), (6, .long (lI p6)), (8, .long (lI p8)), (10, .long (lI p10)), (12, .long (lI p12))]) hx hb (okX0_isNearer (17, .lstore 18, 2) (List.mem_of_getElem? (i := 11) rfl)) hl (by decide) rfl (fun ls hl => ?_)
  refine lv_lload hx hb (okX0_isNearer (19, .lload 14, 2) (List.mem_of_getElem? (i := 12) rfl)) (lv_at hl 2 rfl) ?_
  refine lv_lload hx hb (okX0_isNearer (21, .lload 14, 2) (List.mem_of_getElem? (i := 13) rfl)) (lv_at hl 2 rfl) ?_
  refine sk_lmul hx hb (okX0_isNearer (23, .lmul, 1) (List.mem_of_getElem? (i := 14) rfl)) ?_
  refine lv_lload hx hb (okX0_isNearer (24, .lload 16, 2) (List.mem_of_getElem? (i := 15) rfl)) (lv_at hl 1 rfl) ?_
  refine lv_lload hx hb (okX0_isNearer (26, .lload 16, 2) (List.mem_of_getElem? (i := 16) rfl)) (lv_at hl 1 rfl) ?_
  refine sk_lmul hx hb (okX0_isNearer (28, .lmul, 1) (List.mem_of_getElem? (i := 17) rfl)) ?_
  refine sk_ladd hx hb (okX0_isNearer (29, .ladd, 1) (List.mem_of_getElem? (i := 18) rfl)) ?_
  refine lv_lload hx hb (okX0_isNearer (30, .lload 18, 2) (List.mem_of_getElem? (i := 19) rfl)) (lv_at hl 0 rfl) ?_
  refine lv_lload hx hb (okX0_isNearer (32, .lload 18, 2) (List.mem_of_getElem? (i := 20) rfl)) (lv_at hl 0 rfl) ?_
  refine sk_lmul hx hb (okX0_isNearer (34, .lmul, 1) (List.mem_of_getElem? (i := 21) rfl)) ?_
  refine sk_ladd hx hb (okX0_isNearer (35, .ladd, 1) (List.mem_of_getElem? (i := 22) rfl)) ?_
  obtain ⟨hr4, hM⟩ := hM
  refine sk_nml (fun v20_36 ev20_36 => ?_)
  have hM := hM v20_36 ev20_36
  have hr_v20_36 : rL v20_36 := by rw [ev20_36]; exact hr4
  refine lv_lstore (lv' := [(20, .long (lI v20_36)), (18, .long (lI v18_17)), (16, .long (lI v16_10)), (14, .long (lI v14_4)), (0, .long (lI p0)), (2, .long (lI p2)), (4, .long (lI p4)), (6, .long (lI p6)), (8, .long (lI p8)), (10, .long (lI p10)), (12, .long (lI p12))]) hx hb (okX0_isNearer (36, .lstore 20, 2) (List.mem_of_getElem? (i := 23) rfl)) hl (by decide) rfl (fun ls hl => ?_)
  refine lv_lload_n hx hb (okX0_isNearer (38, .lload_n 0, 1) (List.mem_of_getElem? (i := 24) rfl)) rfl (lv_at hl 4 rfl) ?_
  refine lv_lload hx hb (okX0_isNearer (39, .lload 14, 2) (List.mem_of_getElem? (i := 25) rfl)) (lv_at hl 3 rfl) ?_
  refine sk_lmul hx hb (okX0_isNearer (41, .lmul, 1) (List.mem_of_getElem? (i := 26) rfl)) ?_
  refine lv_lload_n hx hb (okX0_isNearer (42, .lload_n 2, 1) (List.mem_of_getElem? (i := 27) rfl)) rfl (lv_at hl 5 rfl) ?_
  refine lv_lload hx hb (okX0_isNearer (43, .lload 16, 2) (List.mem_of_getElem? (i := 28) rfl)) (lv_at hl 2 rfl) ?_
  refine sk_lmul hx hb (okX0_isNearer (45, .lmul, 1) (List.mem_of_getElem? (i := 29) rfl)) ?_
  refine sk_ladd hx hb (okX0_isNearer (46, .ladd, 1) (List.mem_of_getElem? (i := 30) rfl)) ?_
  refine lv_lload hx hb (okX0_isNearer (47, .lload 4, 2) (List.mem_of_getElem? (i := 31) rfl)) (lv_at hl 6 rfl) ?_
  refine lv_lload hx hb (okX0_isNearer (49, .lload 18, 2) (List.mem_of_getElem? (i := 32) rfl)) (lv_at hl 1 rfl) ?_
  refine sk_lmul hx hb (okX0_isNearer (51, .lmul, 1) (List.mem_of_getElem? (i := 33) rfl)) ?_
  refine sk_ladd hx hb (okX0_isNearer (52, .ladd, 1) (List.mem_of_getElem? (i := 34) rfl)) ?_
  refine sk_lneg hx hb (okX0_isNearer (53, .lneg, 1) (List.mem_of_getElem? (i := 35) rfl)) ?_
  obtain ⟨hr5, hM⟩ := hM
  refine sk_nml (fun v22_54 ev22_54 => ?_)
  have hM := hM v22_54 ev22_54
  have hr_v22_54 : rL v22_54 := by rw [ev22_54]; exact hr5
  refine lv_lstore (lv' := [(22, .long (lI v22_54)), (20, .long (lI v20_36)), (18, .long (lI v18_17)), (16, .long (lI v16_10)), (14, .long (lI v14_4)), (0, .long (lI p0)), (2, .long (lI p2)), (4, .long (lI p4)), (6, .long (lI p6)), (8, .long (lI p8)), (10, .long (lI p10)), (12, .long (lI p12))]) hx hb (okX0_isNearer (54, .lstore 22, 2) (List.mem_of_getElem? (i := 36) rfl)) hl (by decide) rfl (fun ls hl => ?_)
  refine lv_lload_n hx hb (okX0_isNearer (56, .lload_n 0, 1) (List.mem_of_getElem? (i := 37) rfl)) rfl (lv_at hl 5 rfl) ?_
  refine lv_lload_n hx hb (okX0_isNearer (57, .lload_n 0, 1) (List.mem_of_getElem? (i := 38) rfl)) rfl (lv_at hl 5 rfl) ?_
  refine sk_lmul hx hb (okX0_isNearer (58, .lmul, 1) (List.mem_of_getElem? (i := 39) rfl)) ?_
  refine lv_lload_n hx hb (okX0_isNearer (59, .lload_n 2, 1) (List.mem_of_getElem? (i := 40) rfl)) rfl (lv_at hl 6 rfl) ?_
  refine lv_lload_n hx hb (okX0_isNearer (60, .lload_n 2, 1) (List.mem_of_getElem? (i := 41) rfl)) rfl (lv_at hl 6 rfl) ?_
  refine sk_lmul hx hb (okX0_isNearer (61, .lmul, 1) (List.mem_of_getElem? (i := 42) rfl)) ?_
  refine sk_ladd hx hb (okX0_isNearer (62, .ladd, 1) (List.mem_of_getElem? (i := 43) rfl)) ?_
  refine lv_lload hx hb (okX0_isNearer (63, .lload 4, 2) (List.mem_of_getElem? (i := 44) rfl)) (lv_at hl 7 rfl) ?_
  refine lv_lload hx hb (okX0_isNearer (65, .lload 4, 2) (List.mem_of_getElem? (i := 45) rfl)) (lv_at hl 7 rfl) ?_
  refine sk_lmul hx hb (okX0_isNearer (67, .lmul, 1) (List.mem_of_getElem? (i := 46) rfl)) ?_
  refine sk_ladd hx hb (okX0_isNearer (68, .ladd, 1) (List.mem_of_getElem? (i := 47) rfl)) ?_
  obtain ⟨hr6, hM⟩ := hM
  refine sk_nml (fun v24_69 ev24_69 => ?_)
  have hM := hM v24_69 ev24_69
  have hr_v24_69 : rL v24_69 := by rw [ev24_69]; exact hr6
  refine lv_lstore (lv' := [(24, .long (lI v24_69)), (22, .long (lI v22_54)), (20, .long (lI v20_36)), (18, .long (lI v18_17)), (16, .long (lI v16_10)), (14, .long (lI v14_4)), (0, .long (lI p0)), (2, .long (lI p2)), (4, .long (lI p4)), (6, .long (lI p6)), (8, .long (lI p8)), (10, .long (lI p10)), (12, .long (lI p12))]) hx hb (okX0_isNearer (69, .lstore 24, 2) (List.mem_of_getElem? (i := 48) rfl)) hl (by decide) rfl (fun ls hl => ?_)
  refine lv_lload hx hb (okX0_isNearer (71, .lload 12, 2) (List.mem_of_getElem? (i := 49) rfl)) (lv_at hl 12 rfl) ?_
  refine lv_lload hx hb (okX0_isNearer (73, .lload 12, 2) (List.mem_of_getElem? (i := 50) rfl)) (lv_at hl 12 rfl) ?_
  refine sk_lmul hx hb (okX0_isNearer (75, .lmul, 1) (List.mem_of_getElem? (i := 51) rfl)) ?_
  obtain ⟨hr7, hM⟩ := hM
  refine sk_nml (fun v26_76 ev26_76 => ?_)
  have hM := hM v26_76 ev26_76
  have hr_v26_76 : rL v26_76 := by rw [ev26_76]; exact hr7
  refine lv_lstore (lv' := [(26, .long (lI v26_76)), (24, .long (lI v24_69)), (22, .long (lI v22_54)), (20, .long (lI v20_36)), (18, .long (lI v18_17)), (16, .long (lI v16_10)), (14, .long (lI v14_4)), (0, .long (lI p0)), (2, .long (lI p2)), (4, .long (lI p4)), (6, .long (lI p6)), (8, .long (lI p8)), (10, .long (lI p10)), (12, .long (lI p12))]) hx hb (okX0_isNearer (76, .lstore 26, 2) (List.mem_of_getElem? (i := 52) rfl)) hl (by decide) rfl (fun ls hl => ?_)
  refine lv_lload hx hb (okX0_isNearer (78, .lload 22, 2) (List.mem_of_getElem? (i := 53) rfl)) (lv_at hl 2 rfl) ?_
  refine lv_lconst (v := lI 0) hx hb (okX0_isNearer (80, .lconst 0, 1) (List.mem_of_getElem? (i := 54) rfl)) (by decide +kernel) ?_
  refine sk_lcmp hx hb hr_v22_54 (by decide) (okX0_isNearer (81, .lcmp, 1) (List.mem_of_getElem? (i := 55) rfl)) ?_
  refine sk_if_gt (tgt := 99) hx hb (rI_lcmp _ _) (okX0_isNearer (82, .ifCond .gt 17, 3) (List.mem_of_getElem? (i := 56) rfl)) (by decide) (fun c82 => ?_) (fun c82 => ?_)
  · have hM := hM.1 (lcmp_gt.1 c82)
    refine lv_lload hx hb (okX0_isNearer (99, .lload 22, 2) (List.mem_of_getElem? (i := 65) rfl)) (lv_at hl 2 rfl) ?_
    refine lv_lload hx hb (okX0_isNearer (101, .lload 20, 2) (List.mem_of_getElem? (i := 66) rfl)) (lv_at hl 3 rfl) ?_
    refine sk_lcmp hx hb hr_v22_54 hr_v20_36 (okX0_isNearer (103, .lcmp, 1) (List.mem_of_getElem? (i := 67) rfl)) ?_
    refine sk_if_lt (tgt := 136) hx hb (rI_lcmp _ _) (okX0_isNearer (104, .ifCond .lt 32, 3) (List.mem_of_getElem? (i := 68) rfl)) (by decide) (fun c104 => ?_) (fun c104 => ?_)
    · have hM := hM.1 (lcmp_lt.1 c104)
      refine lv_lload hx hb (okX0_isNearer (136, .lload 24, 2) (List.mem_of_getElem? (i := 87) rfl)) (lv_at hl 1 rfl) ?_
      refine lv_lload hx hb (okX0_isNearer (138, .lload 26, 2) (List.mem_of_getElem? (i := 88) rfl)) (lv_at hl 0 rfl) ?_
      refine sk_lsub hx hb (okX0_isNearer (140, .lsub, 1) (List.mem_of_getElem? (i := 89) rfl)) ?_
      refine lv_lload hx hb (okX0_isNearer (141, .lload 20, 2) (List.mem_of_getElem? (i := 90) rfl)) (lv_at hl 3 rfl) ?_
      refine sk_lmul hx hb (okX0_isNearer (143, .lmul, 1) (List.mem_of_getElem? (i := 91) rfl)) ?_
      refine lv_lload hx hb (okX0_isNearer (144, .lload 22, 2) (List.mem_of_getElem? (i := 92) rfl)) (lv_at hl 2 rfl) ?_
      refine lv_lload hx hb (okX0_isNearer (146, .lload 22, 2) (List.mem_of_getElem? (i := 93) rfl)) (lv_at hl 2 rfl) ?_
      refine sk_lmul hx hb (okX0_isNearer (148, .lmul, 1) (List.mem_of_getElem? (i := 94) rfl)) ?_
      obtain ⟨hr8, hM⟩ := hM
      obtain ⟨hr9, hM⟩ := hM
      refine sk_lcmp hx hb hr8 hr9 (okX0_isNearer (149, .lcmp, 1) (List.mem_of_getElem? (i := 95) rfl)) ?_
      refine sk_if_ge (tgt := 157) hx hb (rI_lcmp _ _) (okX0_isNearer (150, .ifCond .ge 7, 3) (List.mem_of_getElem? (i := 96) rfl)) (by decide) (fun c150 => ?_) (fun c150 => ?_)
      · have hM := hM.1 (lcmp_ge.1 c150)
        refine lv_iconst (v := iI 0) hx hb (okX0_isNearer (157, .iconst 0, 1) (List.mem_of_getElem? (i := 99) rfl)) rfl ?_
        exact sk_zret hx hb hr0 hlocks hK hw (Or.inl rfl) hM (okX0_isNearer (158, .ireturn, 1) (List.mem_of_getElem? (i := 100) rfl))
      · have hM := hM.2 (fun q => c150 (lcmp_ge.2 q))
        refine lv_iconst (v := iI 1) hx hb (okX0_isNearer (153, .iconst 1, 1) (List.mem_of_getElem? (i := 97) rfl)) rfl ?_
        refine lv_goto (tgt := 158) hx hb (okX0_isNearer (154, .goto 4, 3) (List.mem_of_getElem? (i := 98) rfl)) (by decide) ?_
        exact sk_zret hx hb hr0 hlocks hK hw (Or.inr rfl) hM (okX0_isNearer (158, .ireturn, 1) (List.mem_of_getElem? (i := 100) rfl))
    · have hM := hM.2 (fun q => c104 (lcmp_lt.2 q))
      refine lv_lload hx hb (okX0_isNearer (107, .lload 6, 2) (List.mem_of_getElem? (i := 69) rfl)) (lv_at hl 10 rfl) ?_
      refine lv_lload hx hb (okX0_isNearer (109, .lload 6, 2) (List.mem_of_getElem? (i := 70) rfl)) (lv_at hl 10 rfl) ?_
      refine sk_lmul hx hb (okX0_isNearer (111, .lmul, 1) (List.mem_of_getElem? (i := 71) rfl)) ?_
      refine lv_lload hx hb (okX0_isNearer (112, .lload 8, 2) (List.mem_of_getElem? (i := 72) rfl)) (lv_at hl 11 rfl) ?_
      refine lv_lload hx hb (okX0_isNearer (114, .lload 8, 2) (List.mem_of_getElem? (i := 73) rfl)) (lv_at hl 11 rfl) ?_
      refine sk_lmul hx hb (okX0_isNearer (116, .lmul, 1) (List.mem_of_getElem? (i := 74) rfl)) ?_
      refine sk_ladd hx hb (okX0_isNearer (117, .ladd, 1) (List.mem_of_getElem? (i := 75) rfl)) ?_
      refine lv_lload hx hb (okX0_isNearer (118, .lload 10, 2) (List.mem_of_getElem? (i := 76) rfl)) (lv_at hl 12 rfl) ?_
      refine lv_lload hx hb (okX0_isNearer (120, .lload 10, 2) (List.mem_of_getElem? (i := 77) rfl)) (lv_at hl 12 rfl) ?_
      refine sk_lmul hx hb (okX0_isNearer (122, .lmul, 1) (List.mem_of_getElem? (i := 78) rfl)) ?_
      refine sk_ladd hx hb (okX0_isNearer (123, .ladd, 1) (List.mem_of_getElem? (i := 79) rfl)) ?_
      refine lv_lload hx hb (okX0_isNearer (124, .lload 26, 2) (List.mem_of_getElem? (i := 80) rfl)) (lv_at hl 0 rfl) ?_
      obtain ⟨hr10, hM⟩ := hM
      refine sk_lcmp hx hb hr10 hr_v26_76 (okX0_isNearer (126, .lcmp, 1) (List.mem_of_getElem? (i := 81) rfl)) ?_
      refine sk_if_ge (tgt := 134) hx hb (rI_lcmp _ _) (okX0_isNearer (127, .ifCond .ge 7, 3) (List.mem_of_getElem? (i := 82) rfl)) (by decide) (fun c127 => ?_) (fun c127 => ?_)
      · have hM := hM.1 (lcmp_ge.1 c127)
        refine lv_iconst (v := iI 0) hx hb (okX0_isNearer (134, .iconst 0, 1) (List.mem_of_getElem? (i := 85) rfl)) rfl ?_
        exact sk_zret hx hb hr0 hlocks hK hw (Or.inl rfl) hM (okX0_isNearer (135, .ireturn, 1) (List.mem_of_getElem? (i := 86) rfl))
      · have hM := hM.2 (fun q => c127 (lcmp_ge.2 q))
        refine lv_iconst (v := iI 1) hx hb (okX0_isNearer (130, .iconst 1, 1) (List.mem_of_getElem? (i := 83) rfl)) rfl ?_
        refine lv_goto (tgt := 135) hx hb (okX0_isNearer (131, .goto 4, 3) (List.mem_of_getElem? (i := 84) rfl)) (by decide) ?_
        exact sk_zret hx hb hr0 hlocks hK hw (Or.inr rfl) hM (okX0_isNearer (135, .ireturn, 1) (List.mem_of_getElem? (i := 86) rfl))
  · have hM := hM.2 (fun q => c82 (lcmp_gt.2 q))
    refine lv_lload hx hb (okX0_isNearer (85, .lload 24, 2) (List.mem_of_getElem? (i := 57) rfl)) (lv_at hl 1 rfl) ?_
    refine lv_lload hx hb (okX0_isNearer (87, .lload 26, 2) (List.mem_of_getElem? (i := 58) rfl)) (lv_at hl 0 rfl) ?_
    refine sk_lcmp hx hb hr_v24_69 hr_v26_76 (okX0_isNearer (89, .lcmp, 1) (List.mem_of_getElem? (i := 59) rfl)) ?_
    refine sk_if_ge (tgt := 97) hx hb (rI_lcmp _ _) (okX0_isNearer (90, .ifCond .ge 7, 3) (List.mem_of_getElem? (i := 60) rfl)) (by decide) (fun c90 => ?_) (fun c90 => ?_)
    · have hM := hM.1 (lcmp_ge.1 c90)
      refine lv_iconst (v := iI 0) hx hb (okX0_isNearer (97, .iconst 0, 1) (List.mem_of_getElem? (i := 63) rfl)) rfl ?_
      exact sk_zret hx hb hr0 hlocks hK hw (Or.inl rfl) hM (okX0_isNearer (98, .ireturn, 1) (List.mem_of_getElem? (i := 64) rfl))
    · have hM := hM.2 (fun q => c90 (lcmp_ge.2 q))
      refine lv_iconst (v := iI 1) hx hb (okX0_isNearer (93, .iconst 1, 1) (List.mem_of_getElem? (i := 61) rfl)) rfl ?_
      refine lv_goto (tgt := 98) hx hb (okX0_isNearer (94, .goto 4, 3) (List.mem_of_getElem? (i := 62) rfl)) (by decide) ?_
      exact sk_zret hx hb hr0 hlocks hK hw (Or.inr rfl) hM (okX0_isNearer (98, .ireturn, 1) (List.mem_of_getElem? (i := 64) rfl))
def rmX0_isInZone : Room := { frames := 1, cells := 0, slots := 0, locals := 79 }
set_option maxHeartbeats 4000000 in
set_option maxRecDepth 100000 in
theorem c_Air_isInZone (l : Launch) (G : sk_G) {p1 p2 p3 p4 : Int} (hr_p1 : rI p1) (hr_p2 : rI p2) (hr_p3 : rI p3) (hr_p4 : rI p4) {Q : Int → sk_S → Prop} {I : sk_S} (hM : M_Air_isInZone p1 p2 p3 p4 Q I) : Met l yX0_isInZone wsX0_isInZone rmX0_isInZone (va_Pc [.ref (sk_ad G 36), .int (iI p1), .int (iI p2), .int (iI p3), .int (iI p4)] (sk_U G 198 sk_t I)) (sk_Qz G 198 sk_t Q) 0 0 (sk_A G) := by
  refine Met.ofW (cc := cX0_isInZone) (maxL := 5) (ret := (some .boolean)) (by decide) rfl ?_
  intro p e s m args below meth c s₁ B hml hv
  obtain ⟨rfl, hU, hK⟩ := hv
  have hx := B.exec
  have hb := B.bytes
  have hr0 := B.returns
  have hts := atoms_spec (ws := wsX0_isInZone) B.pre
  have hown : s.vm.findClass RX0 = some m.cls := findClass_of_methodNamed B.named
  have hlocks := B.notSynchronized
  have S : CallFix p m c cX0_isInZone 5 s ([.ref (sk_ad G 36), .int (iI p1), .int (iI p2), .int (iI p3), .int (iI p4)].toArray) wsX0_isInZone RX0 := ⟨hx, hb, hml, hown, hts⟩
  have hL0 := hts (.fieldLink RX0 13 "SkyLights$Air" "zoneX" "I") (by decide +kernel)
  have hL1 := hts (.fieldLink RX0 16 "SkyLights$Air" "zoneY" "I") (by decide +kernel)
  have hL2 := hts (.fieldLink RX0 19 "SkyLights$Air" "radius" "I") (by decide +kernel)
  have hI0 : ∀ w ∈ u_ws RX0 TX0 4, w ∈ wsX0_isInZone := by decide +kernel
  have hw : sk_W G 198 sk_t I s s.heap [] := ⟨hU, va_S.rf⟩
  have hl := lv_entry ([.ref (sk_ad G 36), .int (iI p1), .int (iI p2), .int (iI p3), .int (iI p4)]) (n := 5) (Nat.le_of_ble_eq_true rfl)
  rw [lg_entry_eq]
  generalize (lg_sl ([.ref (sk_ad G 36), .int (iI p1), .int (iI p2), .int (iI p3), .int (iI p4)]) ++ List.replicate (5 - (lg_sl ([.ref (sk_ad G 36), .int (iI p1), .int (iI p2), .int (iI p3), .int (iI p4)])).length) Slot.unset).toArray = ls at hl ⊢
  have hl : lv_has ls 5 [(0, .ref (sk_ad G 36)), (1, .int (iI p1)), (2, .int (iI p2)), (3, .int (iI p3)), (4, .int (iI p4))] := hl
  suffices hgo : ∀ (H : Heap) (locs : List Loc), sk_W G 198 sk_t I s H locs → W p l e (headSpec wsX0_isInZone rmX0_isInZone).room s m ([.ref (sk_ad G 36), .int (iI p1), .int (iI p2), .int (iI p3), .int (iI p4)].toArray) below meth c H locs 0 0 (MQ below (sk_Qz G 198 sk_t Q) ([.ref (sk_ad G 36), .int (iI p1), .int (iI p2), .int (iI p3), .int (iI p4)].toArray) s 0 0 (sk_A G)) (F0 m 0 ls []) from hgo _ _ hw
  unfold M_Air_isInZone at hM
  intro H locs hw
  refine lv_iload_n hx hb (okX0_isInZone (0, .iload_n 1, 1) (List.mem_of_getElem? (i := 0) rfl)) rfl (lv_at hl 1 rfl) ?_
  refine lv_aload_n hx hb (okX0_isInZone (1, .aload_n 0, 1) (List.mem_of_getElem? (i := 1) rfl)) rfl (lv_at hl 0 rfl) ?_
  have hr1 := hw.1.2.2 36 1
  refine sk_geti S hK hw kdn_36 (kd_in kdn_36) (C := RX0) (T := TX0) (N := 4) rfl hI0 1 ⟨by decide, rfl, by decide, rfl⟩ rfl (k' := 1) rfl hL0 (okX0_isInZone (2, .getfield 13, 3) (List.mem_of_getElem? (i := 2) rfl)) ?_
  refine sk_isub hx hb (okX0_isInZone (5, .isub, 1) (List.mem_of_getElem? (i := 3) rfl)) ?_
  obtain ⟨hr2, hM⟩ := hM
  refine sk_i2l hx hb hr2 (okX0_isInZone (6, .i2l, 1) (List.mem_of_getElem? (i := 4) rfl)) ?_
  refine lv_iload_n hx hb (okX0_isInZone (7, .iload_n 2, 1) (List.mem_of_getElem? (i := 5) rfl)) rfl (lv_at hl 2 rfl) ?_
  refine lv_aload_n hx hb (okX0_isInZone (8, .aload_n 0, 1) (List.mem_of_getElem? (i := 6) rfl)) rfl (lv_at hl 0 rfl) ?_
  have hr3 := hw.1.2.2 36 2
  refine sk_geti S hK hw kdn_36 (kd_in kdn_36) (C := RX0) (T := TX0) (N := 4) rfl hI0 2 ⟨by decide, rfl, by decide, rfl⟩ rfl (k' := 2) rfl hL1 (okX0_isInZone (9, .getfield 16, 3) (List.mem_of_getElem? (i := 7) rfl)) ?_
  refine sk_isub hx hb (okX0_isInZone (12, .isub, 1) (List.mem_of_getElem? (i := 8) rfl)) ?_
  obtain ⟨hr4, hM⟩ := hM
  refine sk_i2l hx hb hr4 (okX0_isInZone (13, .i2l, 1) (List.mem_of_getElem? (i := 9) rfl)) ?_
  refine lv_lconst (v := lI 0) hx hb (okX0_isInZone (14, .lconst 0, 1) (List.mem_of_getElem? (i := 10) rfl)) (by decide +kernel) ?_
  refine lv_iload_n hx hb (okX0_isInZone (15, .iload_n 3, 1) (List.mem_of_getElem? (i := 11) rfl)) rfl (lv_at hl 3 rfl) ?_
  refine lv_aload_n hx hb (okX0_isInZone (16, .aload_n 0, 1) (List.mem_of_getElem? (i := 12) rfl)) rfl (lv_at hl 0 rfl) ?_
  have hr5 := hw.1.2.2 36 1
  refine sk_geti S hK hw kdn_36 (kd_in kdn_36) (C := RX0) (T := TX0) (N := 4) rfl hI0 1 ⟨by decide, rfl, by decide, rfl⟩ rfl (k' := 1) rfl hL0 (okX0_isInZone (17, .getfield 13, 3) (List.mem_of_getElem? (i := 13) rfl)) ?_
  refine sk_isub hx hb (okX0_isInZone (20, .isub, 1) (List.mem_of_getElem? (i := 14) rfl)) ?_
  obtain ⟨hr6, hM⟩ := hM
  refine sk_i2l hx hb hr6 (okX0_isInZone (21, .i2l, 1) (List.mem_of_getElem? (i := 15) rfl)) ?_
  refine lv_iload hx hb (okX0_isInZone (22, .iload 4, 2) (List.mem_of_getElem? (i := 16) rfl)) (lv_at hl 4 rfl) ?_
  refine lv_aload_n hx hb (okX0_isInZone (24, .aload_n 0, 1) (List.mem_of_getElem? (i := 17) rfl)) rfl (lv_at hl 0 rfl) ?_
  have hr7 := hw.1.2.2 36 2
  refine sk_geti S hK hw kdn_36 (kd_in kdn_36) (C := RX0) (T := TX0) (N := 4) rfl hI0 2 ⟨by decide, rfl, by decide, rfl⟩ rfl (k' := 2) rfl hL1 (okX0_isInZone (25, .getfield 16, 3) (List.mem_of_getElem? (i := 18) rfl)) ?_
  refine sk_isub hx hb (okX0_isInZone (28, .isub, 1) (List.mem_of_getElem? (i := 19) rfl)) ?_
  obtain ⟨hr8, hM⟩ := hM
  refine sk_i2l hx hb hr8 (okX0_isInZone (29, .i2l, 1) (List.mem_of_getElem? (i := 20) rfl)) ?_
  refine lv_lconst (v := lI 0) hx hb (okX0_isInZone (30, .lconst 0, 1) (List.mem_of_getElem? (i := 21) rfl)) (by decide +kernel) ?_
  refine lv_aload_n hx hb (okX0_isInZone (31, .aload_n 0, 1) (List.mem_of_getElem? (i := 22) rfl)) rfl (lv_at hl 0 rfl) ?_
  have hr9 := hw.1.2.2 36 3
  refine sk_geti S hK hw kdn_36 (kd_in kdn_36) (C := RX0) (T := TX0) (N := 4) rfl hI0 3 ⟨by decide, rfl, by decide, rfl⟩ rfl (k' := 3) rfl hL2 (okX0_isInZone (32, .getfield 19, 3) (List.mem_of_getElem? (i := 23) rfl)) ?_
  refine sk_i2l hx hb hr9 (okX0_isInZone (35, .i2l, 1) (List.mem_of_getElem? (i := 24) rfl)) ?_
  refine sk_ci (sk_runS (As := [.long (lI (p1 - (I 36 1))), .long (lI (p2 - (I 36 2))), .long (lI 0), .long (lI (p3 - (I 36 1))), .long (lI (p4 - (I 36 2))), .long (lI 0), .long (lI (I 36 3))]) (rest := []) S (c_Air_isNearer l G ⟨Int.le_trans (by decide) (hr2).1, Int.lt_trans (hr2).2 (by decide)⟩ ⟨Int.le_trans (by decide) (hr4).1, Int.lt_trans (hr4).2 (by decide)⟩ (by decide) ⟨Int.le_trans (by decide) (hr6).1, Int.lt_trans (hr6).2 (by decide)⟩ ⟨Int.le_trans (by decide) (hr8).1, Int.lt_trans (hr8).2 (by decide)⟩ (by decide) ⟨Int.le_trans (by decide) (hr9).1, Int.lt_trans (hr9).2 (by decide)⟩ hM) sk_blind gX0_isInZone_X0_isNearer rfl hdX0_isNearer ⟨⟨rfl, rfl⟩, Nat.le_of_ble_eq_true rfl, Nat.le_of_ble_eq_true rfl⟩ (sk_pre hK hw) rfl hl.1 rfl (Nat.le_of_ble_eq_true rfl) (okX0_isInZone (36, .invokestatic 28, 3) (List.mem_of_getElem? (i := 25) rfl)) ⟨Nat.zero_le _, Nat.zero_le _⟩) hw (fun r_36 I_36 H locs hr_r_36 hM hw => ?_)
  obtain ⟨hb_r_36, hM⟩ := hM
  exact sk_zret hx hb hr0 hlocks hK hw hb_r_36 hM (okX0_isInZone (39, .ireturn, 1) (List.mem_of_getElem? (i := 26) rfl))
def rmX7_at : Room := { frames := 0, cells := 0, slots := 0, locals := 0 }
set_option maxHeartbeats 4000000 in
set_option maxRecDepth 100000 in
theorem c_Row_at (l : Launch) (G : sk_G) {p0 p1 : Int} (hk_p0 : kd p0 = 7) (hr_p1 : rI p1) {Q : Int → sk_S → Prop} {I : sk_S} (hM : M_Row_at p0 p1 Q I) : Met l yX7_at wsX7_at rmX7_at (va_Pc [.ref (sk_ad G p0), .int (iI p1)] (sk_U G 198 sk_t I)) (sk_Qi G 198 sk_t Q) 0 0 (sk_A G) := by
  refine Met.ofW (cc := cX7_at) (maxL := 2) (ret := (some .int)) (by decide) rfl ?_
  intro p e s m args below meth c s₁ B hml hv
  obtain ⟨rfl, hU, hK⟩ := hv
  have hx := B.exec
  have hb := B.bytes
  have hr0 := B.returns
  have hts := atoms_spec (ws := wsX7_at) B.pre
  have hown : s.vm.findClass RX7 = some m.cls := findClass_of_methodNamed B.named
  have hlocks := B.notSynchronized
  have S : CallFix p m c cX7_at 2 s ([.ref (sk_ad G p0), .int (iI p1)].toArray) wsX7_at RX7 := ⟨hx, hb, hml, hown, hts⟩
  have hL0 := hts (.fieldLink RX7 7 "SkyLights$Row" "cells" "[I") (by decide +kernel)
  have hI7 : ∀ w ∈ u_ws RX7 TX7 1, w ∈ wsX7_at := by decide +kernel
  have hw : sk_W G 198 sk_t I s s.heap [] := ⟨hU, va_S.rf⟩
  have hl := lv_entry ([.ref (sk_ad G p0), .int (iI p1)]) (n := 2) (Nat.le_of_ble_eq_true rfl)
  rw [lg_entry_eq]
  generalize (lg_sl ([.ref (sk_ad G p0), .int (iI p1)]) ++ List.replicate (2 - (lg_sl ([.ref (sk_ad G p0), .int (iI p1)])).length) Slot.unset).toArray = ls at hl ⊢
  have hl : lv_has ls 2 [(0, .ref (sk_ad G p0)), (1, .int (iI p1))] := hl
  suffices hgo : ∀ (H : Heap) (locs : List Loc), sk_W G 198 sk_t I s H locs → W p l e (headSpec wsX7_at rmX7_at).room s m ([.ref (sk_ad G p0), .int (iI p1)].toArray) below meth c H locs 0 0 (MQ below (sk_Qi G 198 sk_t Q) ([.ref (sk_ad G p0), .int (iI p1)].toArray) s 0 0 (sk_A G)) (F0 m 0 ls []) from hgo _ _ hw
  unfold M_Row_at at hM
  intro H locs hw
  refine lv_iload_n hx hb (okX7_at (0, .iload_n 1, 1) (List.mem_of_getElem? (i := 0) rfl)) rfl (lv_at hl 1 rfl) ?_
  refine sk_if_lt (tgt := 22) hx hb hr_p1 (okX7_at (1, .ifCond .lt 21, 3) (List.mem_of_getElem? (i := 1) rfl)) (by decide) (fun c1 => ?_) (fun c1 => ?_)
  · have hM := hM.1 c1
    refine lv_iconst (v := iI 0) hx hb (okX7_at (22, .iconst 0, 1) (List.mem_of_getElem? (i := 12) rfl)) rfl ?_
    exact sk_iret hx hb hr0 hlocks hK hw (by decide) hM (okX7_at (23, .ireturn, 1) (List.mem_of_getElem? (i := 13) rfl))
  · have hM := hM.2 c1
    refine lv_iload_n hx hb (okX7_at (4, .iload_n 1, 1) (List.mem_of_getElem? (i := 2) rfl)) rfl (lv_at hl 1 rfl) ?_
    refine lv_aload_n hx hb (okX7_at (5, .aload_n 0, 1) (List.mem_of_getElem? (i := 3) rfl)) rfl (lv_at hl 0 rfl) ?_
    refine sk_getr (b := (p0 + 1)) S hK hw hk_p0 (kd_in hk_p0) (C := RX7) (T := TX7) (N := 1) rfl hI7 0 ⟨by decide, rfl, by decide, rfl⟩ rfl (k' := 0) rfl rfl (rf7 hk_p0) hL0 (okX7_at (6, .getfield 7, 3) (List.mem_of_getElem? (i := 4) rfl)) ?_
    refine sk_len S hK hw (Or.inl (k7 hk_p0)) (kd_in (k7 hk_p0)) (okX7_at (9, .arraylength, 1) (List.mem_of_getElem? (i := 5) rfl)) ?_
    refine sk_icmp_ge (tgt := 22) hx hb hr_p1 (ln_r _).1 (okX7_at (10, .if_icmp .ge 12, 3) (List.mem_of_getElem? (i := 6) rfl)) (by decide) (fun c10 => ?_) (fun c10 => ?_)
    · have hM := hM.1 c10
      refine lv_iconst (v := iI 0) hx hb (okX7_at (22, .iconst 0, 1) (List.mem_of_getElem? (i := 12) rfl)) rfl ?_
      exact sk_iret hx hb hr0 hlocks hK hw (by decide) hM (okX7_at (23, .ireturn, 1) (List.mem_of_getElem? (i := 13) rfl))
    · have hM := hM.2 c10
      refine lv_aload_n hx hb (okX7_at (13, .aload_n 0, 1) (List.mem_of_getElem? (i := 7) rfl)) rfl (lv_at hl 0 rfl) ?_
      refine sk_getr (b := (p0 + 1)) S hK hw hk_p0 (kd_in hk_p0) (C := RX7) (T := TX7) (N := 1) rfl hI7 0 ⟨by decide, rfl, by decide, rfl⟩ rfl (k' := 0) rfl rfl (rf7 hk_p0) hL0 (okX7_at (14, .getfield 7, 3) (List.mem_of_getElem? (i := 8) rfl)) ?_
      refine lv_iload_n hx hb (okX7_at (17, .iload_n 1, 1) (List.mem_of_getElem? (i := 9) rfl)) rfl (lv_at hl 1 rfl) ?_
      obtain ⟨hi1, hM⟩ := hM
      have hr2 := hw.1.2.2 (p0 + 1) p1
      refine sk_ild S hK hw (k7 hk_p0) (kd_in (k7 hk_p0)) hi1 (okX7_at (18, .iaload, 1) (List.mem_of_getElem? (i := 10) rfl)) ?_
      refine lv_goto (tgt := 23) hx hb (okX7_at (19, .goto 4, 3) (List.mem_of_getElem? (i := 11) rfl)) (by decide) ?_
      exact sk_iret hx hb hr0 hlocks hK hw hr2 hM (okX7_at (23, .ireturn, 1) (List.mem_of_getElem? (i := 13) rfl))
def rmX5_way : Room := { frames := 1, cells := 0, slots := 0, locals := 53 }
set_option maxHeartbeats 4000000 in
set_option maxRecDepth 100000 in
theorem c_Places_way (l : Launch) (G : sk_G) {p0 p1 p2 p3 : Int} (hk_p0 : kd p0 = 5) (hr_p1 : rI p1) (hk_p2 : kd p2 = 5) (hr_p3 : rI p3) {Q : Int → sk_S → Prop} {I : sk_S} (hM : M_Places_way p0 p1 p2 p3 Q I) : Met l yX5_way wsX5_way rmX5_way (va_Pc [.ref (sk_ad G p0), .int (iI p1), .ref (sk_ad G p2), .int (iI p3)] (sk_U G 198 sk_t I)) (sk_Qi G 198 sk_t Q) 0 0 (sk_A G) := by
  refine Met.ofW (cc := cX5_way) (maxL := 7) (ret := (some .int)) (by decide) rfl ?_
  intro p e s m args below meth c s₁ B hml hv
  obtain ⟨rfl, hU, hK⟩ := hv
  have hx := B.exec
  have hb := B.bytes
  have hr0 := B.returns
  have hts := atoms_spec (ws := wsX5_way) B.pre
  have hown : s.vm.findClass RX5 = some m.cls := findClass_of_methodNamed B.named
  have hlocks := B.notSynchronized
  have S : CallFix p m c cX5_way 7 s ([.ref (sk_ad G p0), .int (iI p1), .ref (sk_ad G p2), .int (iI p3)].toArray) wsX5_way RX5 := ⟨hx, hb, hml, hown, hts⟩
  have hL0 := hts (.fieldLink RX5 16 "SkyLights$Places" "cells" "LSkyLights$Row;") (by decide +kernel)
  have hI5 : ∀ w ∈ u_ws RX5 TX5 2, w ∈ wsX5_way := by decide +kernel
  have hw : sk_W G 198 sk_t I s s.heap [] := ⟨hU, va_S.rf⟩
  have hl := lv_entry ([.ref (sk_ad G p0), .int (iI p1), .ref (sk_ad G p2), .int (iI p3)]) (n := 7) (Nat.le_of_ble_eq_true rfl)
  rw [lg_entry_eq]
  generalize (lg_sl ([.ref (sk_ad G p0), .int (iI p1), .ref (sk_ad G p2), .int (iI p3)]) ++ List.replicate (7 - (lg_sl ([.ref (sk_ad G p0), .int (iI p1), .ref (sk_ad G p2), .int (iI p3)])).length) Slot.unset).toArray = ls at hl ⊢
  have hl : lv_has ls 7 [(0, .ref (sk_ad G p0)), (1, .int (iI p1)), (2, .ref (sk_ad G p2)), (3, .int (iI p3))] := hl
  suffices hgo : ∀ (H : Heap) (locs : List Loc), sk_W G 198 sk_t I s H locs → W p l e (headSpec wsX5_way rmX5_way).room s m ([.ref (sk_ad G p0), .int (iI p1), .ref (sk_ad G p2), .int (iI p3)].toArray) below meth c H locs 0 0 (MQ below (sk_Qi G 198 sk_t Q) ([.ref (sk_ad G p0), .int (iI p1), .ref (sk_ad G p2), .int (iI p3)].toArray) s 0 0 (sk_A G)) (F0 m 0 ls []) from hgo _ _ hw
  have hJ_6 : ∀ (v0 v1 v2 v3 v4 v5 : Int) (I : sk_S), kd v0 = 5 → rI v1 → kd v2 = 5 → rI v3 → rI v4 → rI v5 → L_Places_way_6 v0 v1 v2 v3 Q v4 v5 I → ∀ (H : Heap) (locs : List Loc) (ls : Array Slot), sk_W G 198 sk_t I s H locs → lv_has ls 7 [(0, .ref (sk_ad G v0)), (1, .int (iI v1)), (2, .ref (sk_ad G v2)), (3, .int (iI v3)), (4, .int (iI v4)), (5, .int (iI v5))] → W p l e (headSpec wsX5_way rmX5_way).room s m ([.ref (sk_ad G p0), .int (iI p1), .ref (sk_ad G p2), .int (iI p3)].toArray) below meth c H locs 0 0 (MQ below (sk_Qi G 198 sk_t Q) ([.ref (sk_ad G p0), .int (iI p1), .ref (sk_ad G p2), .int (iI p3)].toArray) s 0 0 (sk_A G)) (F0 m 6 ls []) := by
    intro v0 v1 v2 v3 v4 v5 I hk_v0 hr_v1 hk_v2 hr_v3 hr_v4 hr_v5 hM H locs ls hw hl
    unfold L_Places_way_6 at hM
    obtain ⟨X_6, hX_6⟩ : ∃ X : Int → Int → sk_S → Prop, ∀ (v4 v5 : Int) (I : sk_S), X v4 v5 I ↔ (rI v4 → rI v5 → ∀ (H : Heap) (locs : List Loc) (ls : Array Slot), sk_W G 198 sk_t I s H locs → lv_has ls 7 [(0, .ref (sk_ad G v0)), (1, .int (iI v1)), (2, .ref (sk_ad G v2)), (3, .int (iI v3)), (4, .int (iI v4)), (5, .int (iI v5))] → W p l e (headSpec wsX5_way rmX5_way).room s m ([.ref (sk_ad G p0), .int (iI p1), .ref (sk_ad G p2), .int (iI p3)].toArray) below meth c H locs 0 0 (MQ below (sk_Qi G 198 sk_t Q) ([.ref (sk_ad G p0), .int (iI p1), .ref (sk_ad G p2), .int (iI p3)].toArray) s 0 0 (sk_A G)) (F0 m 6 ls [])) := ⟨_, fun _ _ _ => Iff.rfl⟩
    refine (hX_6 v4 v5 I).1 (hM X_6 (fun v4 v5 I hM => (hX_6 v4 v5 I).2 (fun hr_v4 hr_v5 H locs ls hw hl => ?_))) hr_v4 hr_v5 H locs ls hw hl
    refine lv_iload hx hb (okX5_way (6, .iload 5, 2) (List.mem_of_getElem? (i := 4) rfl)) (lv_at hl 5 rfl) ?_
    refine lv_iconst (v := iI 3) hx hb (okX5_way (8, .iconst 3, 1) (List.mem_of_getElem? (i := 5) rfl)) rfl ?_
    refine sk_icmp_ge (tgt := 57) hx hb hr_v5 (by decide) (okX5_way (9, .if_icmp .ge 48, 3) (List.mem_of_getElem? (i := 6) rfl)) (by decide) (fun c9 => ?_) (fun c9 => ?_)
    · have hM := hM.1 c9
      refine lv_iload hx hb (okX5_way (57, .iload 4, 2) (List.mem_of_getElem? (i := 33) rfl)) (lv_at hl 4 rfl) ?_
      exact sk_iret hx hb hr0 hlocks hK hw hr_v4 hM (okX5_way (59, .ireturn, 1) (List.mem_of_getElem? (i := 34) rfl))
    · have hM := hM.2 c9
      refine lv_aload_n hx hb (okX5_way (12, .aload_n 0, 1) (List.mem_of_getElem? (i := 7) rfl)) rfl (lv_at hl 0 rfl) ?_
      refine sk_getr (b := (v0 + 1)) S hK hw hk_v0 (kd_in hk_v0) (C := RX5) (T := TX5) (N := 2) rfl hI5 0 ⟨by decide, rfl, by decide, rfl⟩ rfl (k' := 0) rfl rfl (rf5 hk_v0) hL0 (okX5_way (13, .getfield 16, 3) (List.mem_of_getElem? (i := 8) rfl)) ?_
      refine lv_iload_n hx hb (okX5_way (16, .iload_n 1, 1) (List.mem_of_getElem? (i := 9) rfl)) rfl (lv_at hl 1 rfl) ?_
      refine lv_iconst (v := iI 4) hx hb (okX5_way (17, .iconst 4, 1) (List.mem_of_getElem? (i := 10) rfl)) rfl ?_
      refine sk_imul hx hb (okX5_way (18, .imul, 1) (List.mem_of_getElem? (i := 11) rfl)) ?_
      refine lv_iload hx hb (okX5_way (19, .iload 5, 2) (List.mem_of_getElem? (i := 12) rfl)) (lv_at hl 5 rfl) ?_
      refine sk_iadd hx hb (okX5_way (21, .iadd, 1) (List.mem_of_getElem? (i := 13) rfl)) ?_
      obtain ⟨hr1, hM⟩ := hM
      refine sk_ci (sk_runV (a := (v0 + 1)) (C := RX7) (As := [.int (iI ((v1 * 4) + v5))]) (rest := []) S (c_Row_at l G (k5 hk_v0) hr1 hM) sk_blind gX5_way_X7_at rfl hdX7_at ⟨⟨rfl, rfl⟩, Nat.le_of_ble_eq_true rfl, Nat.le_of_ble_eq_true rfl⟩ (sk_recv hK hw (k5 hk_v0) (kd_in (k5 hk_v0)) (by decide) rfl) (sk_pre hK hw) rfl hl.1 rfl (Nat.le_of_ble_eq_true rfl) (okX5_way (22, .invokevirtual 28, 3) (List.mem_of_getElem? (i := 14) rfl)) ⟨Nat.zero_le _, Nat.zero_le _⟩) hw (fun r_22 I_22 H locs hr_r_22 hM hw => ?_)
      refine lv_aload_n hx hb (okX5_way (25, .aload_n 2, 1) (List.mem_of_getElem? (i := 15) rfl)) rfl (lv_at hl 2 rfl) ?_
      refine sk_getr (b := (v2 + 1)) S hK hw hk_v2 (kd_in hk_v2) (C := RX5) (T := TX5) (N := 2) rfl hI5 0 ⟨by decide, rfl, by decide, rfl⟩ rfl (k' := 0) rfl rfl (rf5 hk_v2) hL0 (okX5_way (26, .getfield 16, 3) (List.mem_of_getElem? (i := 16) rfl)) ?_
      refine lv_iload_n hx hb (okX5_way (29, .iload_n 3, 1) (List.mem_of_getElem? (i := 17) rfl)) rfl (lv_at hl 3 rfl) ?_
      refine lv_iconst (v := iI 4) hx hb (okX5_way (30, .iconst 4, 1) (List.mem_of_getElem? (i := 18) rfl)) rfl ?_
      refine sk_imul hx hb (okX5_way (31, .imul, 1) (List.mem_of_getElem? (i := 19) rfl)) ?_
      refine lv_iload hx hb (okX5_way (32, .iload 5, 2) (List.mem_of_getElem? (i := 20) rfl)) (lv_at hl 5 rfl) ?_
      refine sk_iadd hx hb (okX5_way (34, .iadd, 1) (List.mem_of_getElem? (i := 21) rfl)) ?_
      obtain ⟨hr2, hM⟩ := hM
      refine sk_ci (sk_runV (a := (v2 + 1)) (C := RX7) (As := [.int (iI ((v3 * 4) + v5))]) (rest := [.int (iI r_22)]) S (c_Row_at l G (k5 hk_v2) hr2 hM) sk_blind gX5_way_X7_at rfl hdX7_at ⟨⟨rfl, rfl⟩, Nat.le_of_ble_eq_true rfl, Nat.le_of_ble_eq_true rfl⟩ (sk_recv hK hw (k5 hk_v2) (kd_in (k5 hk_v2)) (by decide) rfl) (sk_pre hK hw) rfl hl.1 rfl (Nat.le_of_ble_eq_true rfl) (okX5_way (35, .invokevirtual 28, 3) (List.mem_of_getElem? (i := 22) rfl)) ⟨Nat.zero_le _, Nat.zero_le _⟩) hw (fun r_35 I_35 H locs hr_r_35 hM hw => ?_)
      refine sk_isub hx hb (okX5_way (38, .isub, 1) (List.mem_of_getElem? (i := 23) rfl)) ?_
      obtain ⟨hr3, hM⟩ := hM
      refine sk_nm (fun v6_39 ev6_39 => ?_)
      have hM := hM v6_39 ev6_39
      have hr_v6_39 : rI v6_39 := by rw [ev6_39]; exact hr3
      refine lv_istore (lv' := [(6, .int (iI v6_39)), (0, .ref (sk_ad G v0)), (1, .int (iI v1)), (2, .ref (sk_ad G v2)), (3, .int (iI v3)), (4, .int (iI v4)), (5, .int (iI v5))]) hx hb (okX5_way (39, .istore 6, 2) (List.mem_of_getElem? (i := 24) rfl)) hl (by decide) rfl (fun ls hl => ?_)
      refine lv_iload hx hb (okX5_way (41, .iload 4, 2) (List.mem_of_getElem? (i := 25) rfl)) (lv_at hl 5 rfl) ?_
      refine lv_iload hx hb (okX5_way (43, .iload 6, 2) (List.mem_of_getElem? (i := 26) rfl)) (lv_at hl 0 rfl) ?_
      refine lv_iload hx hb (okX5_way (45, .iload 6, 2) (List.mem_of_getElem? (i := 27) rfl)) (lv_at hl 0 rfl) ?_
      refine sk_imul hx hb (okX5_way (47, .imul, 1) (List.mem_of_getElem? (i := 28) rfl)) ?_
      refine sk_iadd hx hb (okX5_way (48, .iadd, 1) (List.mem_of_getElem? (i := 29) rfl)) ?_
      obtain ⟨hr4, hM⟩ := hM
      refine sk_nm (fun v4_49 ev4_49 => ?_)
      have hM := hM v4_49 ev4_49
      have hr_v4_49 : rI v4_49 := by rw [ev4_49]; exact hr4
      refine lv_istore (lv' := [(4, .int (iI v4_49)), (6, .int (iI v6_39)), (0, .ref (sk_ad G v0)), (1, .int (iI v1)), (2, .ref (sk_ad G v2)), (3, .int (iI v3)), (5, .int (iI v5))]) hx hb (okX5_way (49, .istore 4, 2) (List.mem_of_getElem? (i := 30) rfl)) hl (by decide) rfl (fun ls hl => ?_)
      obtain ⟨hr5, hM⟩ := hM
      obtain ⟨v5_51, ev5_51⟩ : ∃ y : Int, y = v5 + 1 := ⟨_, rfl⟩
      have hM := hM v5_51 ev5_51
      have hr_v5_51 : rI v5_51 := by rw [ev5_51]; exact hr5
      refine lv_iinc (v := iI v5_51) (lv' := [(5, .int (iI v5_51)), (4, .int (iI v4_49)), (6, .int (iI v6_39)), (0, .ref (sk_ad G v0)), (1, .int (iI v1)), (2, .ref (sk_ad G v2)), (3, .int (iI v3))]) hx hb (okX5_way (51, .iinc 5 1, 3) (List.mem_of_getElem? (i := 31) rfl)) hl (k := 6) rfl (by rw [ev5_51]; exact iI_add _ _) (by decide) rfl (fun ls hl => ?_)
      refine lv_goto (tgt := 6) hx hb (okX5_way (54, .goto (-48), 3) (List.mem_of_getElem? (i := 32) rfl)) (by decide) ?_
      exact (hX_6 v4_49 v5_51 I_35).1 hM hr_v4_49 hr_v5_51 H locs ls hw (lv_sub hl [3, 4, 5, 6, 1, 0] rfl)
  unfold M_Places_way at hM
  intro H locs hw
  refine lv_iconst (v := iI 0) hx hb (okX5_way (0, .iconst 0, 1) (List.mem_of_getElem? (i := 0) rfl)) rfl ?_
  refine lv_istore (lv' := [(4, .int (iI 0)), (0, .ref (sk_ad G p0)), (1, .int (iI p1)), (2, .ref (sk_ad G p2)), (3, .int (iI p3))]) hx hb (okX5_way (1, .istore 4, 2) (List.mem_of_getElem? (i := 1) rfl)) hl (by decide) rfl (fun ls hl => ?_)
  refine lv_iconst (v := iI 0) hx hb (okX5_way (3, .iconst 0, 1) (List.mem_of_getElem? (i := 2) rfl)) rfl ?_
  refine lv_istore (lv' := [(5, .int (iI 0)), (4, .int (iI 0)), (0, .ref (sk_ad G p0)), (1, .int (iI p1)), (2, .ref (sk_ad G p2)), (3, .int (iI p3))]) hx hb (okX5_way (4, .istore 5, 2) (List.mem_of_getElem? (i := 3) rfl)) hl (by decide) rfl (fun ls hl => ?_)
  exact hJ_6 p0 p1 p2 p3 0 0 I hk_p0 hr_p1 hk_p2 hr_p3 (by decide) (by decide) hM H locs ls hw (lv_sub hl [2, 3, 4, 5, 1, 0] rfl)
def rmX5_leastWay : Room := { frames := 2, cells := 0, slots := 0, locals := 111 }
set_option maxHeartbeats 4000000 in
set_option maxRecDepth 100000 in
theorem c_Places_leastWay (l : Launch) (G : sk_G) {p0 : Int} (hk_p0 : kd p0 = 5) {Q : Int → sk_S → Prop} {I : sk_S} (hM : M_Places_leastWay p0 Q I) : Met l yX5_leastWay wsX5_leastWay rmX5_leastWay (va_Pc [.ref (sk_ad G p0)] (sk_U G 198 sk_t I)) (sk_Qi G 198 sk_t Q) 0 0 (sk_A G) := by
  refine Met.ofW (cc := cX5_leastWay) (maxL := 4) (ret := (some .int)) (by decide) rfl ?_
  intro p e s m args below meth c s₁ B hml hv
  obtain ⟨rfl, hU, hK⟩ := hv
  have hx := B.exec
  have hb := B.bytes
  have hr0 := B.returns
  have hts := atoms_spec (ws := wsX5_leastWay) B.pre
  have hown : s.vm.findClass RX5 = some m.cls := findClass_of_methodNamed B.named
  have hlocks := B.notSynchronized
  have S : CallFix p m c cX5_leastWay 4 s ([.ref (sk_ad G p0)].toArray) wsX5_leastWay RX5 := ⟨hx, hb, hml, hown, hts⟩
  have hL0 := hts (.constant RX5 34 (1000000)) (by decide +kernel)
  have hL1 := hts (.fieldLink RX5 20 "SkyLights$Places" "size" "I") (by decide +kernel)
  have hL2 := hts (.methodLink RX5 39 Lib.Math.min.name) (by decide +kernel)
  have hL3 := hts (.static Lib.Math.min.name) (by decide +kernel)
  have hL4 := hts (.initialized "java/lang/Math") (by decide +kernel)
  have hL5 := hts (.code Lib.Math.min.name Lib.Math.min.code 2 (some .int)) (by decide +kernel)
  have hI5 : ∀ w ∈ u_ws RX5 TX5 2, w ∈ wsX5_leastWay := by decide +kernel
  have hw : sk_W G 198 sk_t I s s.heap [] := ⟨hU, va_S.rf⟩
  have hl := lv_entry ([.ref (sk_ad G p0)]) (n := 4) (Nat.le_of_ble_eq_true rfl)
  rw [lg_entry_eq]
  generalize (lg_sl ([.ref (sk_ad G p0)]) ++ List.replicate (4 - (lg_sl ([.ref (sk_ad G p0)])).length) Slot.unset).toArray = ls at hl ⊢
  have hl : lv_has ls 4 [(0, .ref (sk_ad G p0))] := hl
  suffices hgo : ∀ (H : Heap) (locs : List Loc), sk_W G 198 sk_t I s H locs → W p l e (headSpec wsX5_leastWay rmX5_leastWay).room s m ([.ref (sk_ad G p0)].toArray) below meth c H locs 0 0 (MQ below (sk_Qi G 198 sk_t Q) ([.ref (sk_ad G p0)].toArray) s 0 0 (sk_A G)) (F0 m 0 ls []) from hgo _ _ hw
  have hJ_5 : ∀ (v0 v1 v2 : Int) (I : sk_S), kd v0 = 5 → rI v1 → rI v2 → L_Places_leastWay_5 v0 Q v1 v2 I → ∀ (H : Heap) (locs : List Loc) (ls : Array Slot), sk_W G 198 sk_t I s H locs → lv_has ls 4 [(0, .ref (sk_ad G v0)), (1, .int (iI v1)), (2, .int (iI v2))] → W p l e (headSpec wsX5_leastWay rmX5_leastWay).room s m ([.ref (sk_ad G p0)].toArray) below meth c H locs 0 0 (MQ below (sk_Qi G 198 sk_t Q) ([.ref (sk_ad G p0)].toArray) s 0 0 (sk_A G)) (F0 m 5 ls []) := by
    intro v0 v1 v2 I hk_v0 hr_v1 hr_v2 hM H locs ls hw hl
    unfold L_Places_leastWay_5 at hM
    obtain ⟨X_5, hX_5⟩ : ∃ X : Int → Int → sk_S → Prop, ∀ (v1 v2 : Int) (I : sk_S), X v1 v2 I ↔ (rI v1 → rI v2 → ∀ (H : Heap) (locs : List Loc) (ls : Array Slot), sk_W G 198 sk_t I s H locs → lv_has ls 4 [(0, .ref (sk_ad G v0)), (1, .int (iI v1)), (2, .int (iI v2))] → W p l e (headSpec wsX5_leastWay rmX5_leastWay).room s m ([.ref (sk_ad G p0)].toArray) below meth c H locs 0 0 (MQ below (sk_Qi G 198 sk_t Q) ([.ref (sk_ad G p0)].toArray) s 0 0 (sk_A G)) (F0 m 5 ls [])) := ⟨_, fun _ _ _ => Iff.rfl⟩
    have hJ_43 : ∀ (v1 v2 : Int) (I : sk_S), rI v1 → rI v2 → J_Places_leastWay_43 v0 v1 v2 Q X_5 I → ∀ (H : Heap) (locs : List Loc) (ls : Array Slot), sk_W G 198 sk_t I s H locs → lv_has ls 4 [(0, .ref (sk_ad G v0)), (1, .int (iI v1)), (2, .int (iI v2))] → W p l e (headSpec wsX5_leastWay rmX5_leastWay).room s m ([.ref (sk_ad G p0)].toArray) below meth c H locs 0 0 (MQ below (sk_Qi G 198 sk_t Q) ([.ref (sk_ad G p0)].toArray) s 0 0 (sk_A G)) (F0 m 43 ls []) := by
      intro v1 v2 I hr_v1 hr_v2 hM H locs ls hw hl
      unfold J_Places_leastWay_43 at hM
      obtain ⟨hr5, hM⟩ := hM
      obtain ⟨v2_43, ev2_43⟩ : ∃ y : Int, y = v2 + 1 := ⟨_, rfl⟩
      have hM := hM v2_43 ev2_43
      have hr_v2_43 : rI v2_43 := by rw [ev2_43]; exact hr5
      refine lv_iinc (v := iI v2_43) (lv' := [(2, .int (iI v2_43)), (0, .ref (sk_ad G v0)), (1, .int (iI v1))]) hx hb (okX5_leastWay (43, .iinc 2 1, 3) (List.mem_of_getElem? (i := 26) rfl)) hl (k := 2) rfl (by rw [ev2_43]; exact iI_add _ _) (by decide) rfl (fun ls hl => ?_)
      refine lv_goto (tgt := 5) hx hb (okX5_leastWay (46, .goto (-41), 3) (List.mem_of_getElem? (i := 27) rfl)) (by decide) ?_
      exact (hX_5 v1 v2_43 I).1 hM hr_v1 hr_v2_43 H locs ls hw (lv_sub hl [1, 2, 0] rfl)
    have hJ_17 : ∀ (v2 v1 v3 : Int) (I : sk_S), rI v2 → rI v1 → rI v3 → L_Places_leastWay_17 v0 v2 Q X_5 v1 v3 I → ∀ (H : Heap) (locs : List Loc) (ls : Array Slot), sk_W G 198 sk_t I s H locs → lv_has ls 4 [(0, .ref (sk_ad G v0)), (1, .int (iI v1)), (2, .int (iI v2)), (3, .int (iI v3))] → W p l e (headSpec wsX5_leastWay rmX5_leastWay).room s m ([.ref (sk_ad G p0)].toArray) below meth c H locs 0 0 (MQ below (sk_Qi G 198 sk_t Q) ([.ref (sk_ad G p0)].toArray) s 0 0 (sk_A G)) (F0 m 17 ls []) := by
      intro v2 v1 v3 I hr_v2 hr_v1 hr_v3 hM H locs ls hw hl
      unfold L_Places_leastWay_17 at hM
      obtain ⟨X_17, hX_17⟩ : ∃ X : Int → Int → sk_S → Prop, ∀ (v1 v3 : Int) (I : sk_S), X v1 v3 I ↔ (rI v1 → rI v3 → ∀ (H : Heap) (locs : List Loc) (ls : Array Slot), sk_W G 198 sk_t I s H locs → lv_has ls 4 [(0, .ref (sk_ad G v0)), (1, .int (iI v1)), (2, .int (iI v2)), (3, .int (iI v3))] → W p l e (headSpec wsX5_leastWay rmX5_leastWay).room s m ([.ref (sk_ad G p0)].toArray) below meth c H locs 0 0 (MQ below (sk_Qi G 198 sk_t Q) ([.ref (sk_ad G p0)].toArray) s 0 0 (sk_A G)) (F0 m 17 ls [])) := ⟨_, fun _ _ _ => Iff.rfl⟩
      refine (hX_17 v1 v3 I).1 (hM X_17 (fun v1 v3 I hM => (hX_17 v1 v3 I).2 (fun hr_v1 hr_v3 H locs ls hw hl => ?_))) hr_v1 hr_v3 H locs ls hw hl
      refine lv_iload_n hx hb (okX5_leastWay (17, .iload_n 3, 1) (List.mem_of_getElem? (i := 12) rfl)) rfl (lv_at hl 3 rfl) ?_
      refine lv_aload_n hx hb (okX5_leastWay (18, .aload_n 0, 1) (List.mem_of_getElem? (i := 13) rfl)) rfl (lv_at hl 0 rfl) ?_
      have hr3 := hw.1.2.2 v0 1
      refine sk_geti S hK hw hk_v0 (kd_in hk_v0) (C := RX5) (T := TX5) (N := 2) rfl hI5 1 ⟨by decide, rfl, by decide, rfl⟩ rfl (k' := 1) rfl hL1 (okX5_leastWay (19, .getfield 20, 3) (List.mem_of_getElem? (i := 14) rfl)) ?_
      refine sk_icmp_ge (tgt := 43) hx hb hr_v3 hr3 (okX5_leastWay (22, .if_icmp .ge 21, 3) (List.mem_of_getElem? (i := 15) rfl)) (by decide) (fun c22 => ?_) (fun c22 => ?_)
      · have hM := hM.1 c22
        exact hJ_43 v1 v2 I hr_v1 hr_v2 hM H locs ls hw (lv_sub hl [0, 1, 2] rfl)
      · have hM := hM.2 c22
        refine lv_iload_n hx hb (okX5_leastWay (25, .iload_n 1, 1) (List.mem_of_getElem? (i := 16) rfl)) rfl (lv_at hl 1 rfl) ?_
        refine lv_aload_n hx hb (okX5_leastWay (26, .aload_n 0, 1) (List.mem_of_getElem? (i := 17) rfl)) rfl (lv_at hl 0 rfl) ?_
        refine lv_iload_n hx hb (okX5_leastWay (27, .iload_n 2, 1) (List.mem_of_getElem? (i := 18) rfl)) rfl (lv_at hl 2 rfl) ?_
        refine lv_aload_n hx hb (okX5_leastWay (28, .aload_n 0, 1) (List.mem_of_getElem? (i := 19) rfl)) rfl (lv_at hl 0 rfl) ?_
        refine lv_iload_n hx hb (okX5_leastWay (29, .iload_n 3, 1) (List.mem_of_getElem? (i := 20) rfl)) rfl (lv_at hl 3 rfl) ?_
        refine sk_ci (sk_runV (a := v0) (C := RX5) (As := [.int (iI v2), .ref (sk_ad G v0), .int (iI v3)]) (rest := [.int (iI v1)]) S (c_Places_way l G hk_v0 hr_v2 hk_v0 hr_v3 hM) sk_blind gX5_leastWay_X5_way rfl hdX5_way ⟨⟨rfl, rfl⟩, Nat.le_of_ble_eq_true rfl, Nat.le_of_ble_eq_true rfl⟩ (sk_recv hK hw hk_v0 (kd_in hk_v0) (by decide) rfl) (sk_pre hK hw) rfl hl.1 rfl (Nat.le_of_ble_eq_true rfl) (okX5_leastWay (30, .invokevirtual 35, 3) (List.mem_of_getElem? (i := 21) rfl)) ⟨Nat.zero_le _, Nat.zero_le _⟩) hw (fun r_30 I_30 H locs hr_r_30 hM hw => ?_)
        refine sk_min hx hb (hml.trans hl.1.symm) hown hL2 hL3 hL4 hL5 ⟨Nat.le_of_ble_eq_true rfl, Nat.le_of_ble_eq_true rfl, Nat.zero_le _, Nat.zero_le _⟩ hr_v1 hr_r_30 (okX5_leastWay (33, .invokestatic 39, 3) (List.mem_of_getElem? (i := 22) rfl)) ?_
        refine sk_nm (fun v1_36 ev1_36 => ?_)
        have hM := hM v1_36 ev1_36
        have hr_v1_36 : rI v1_36 := by rw [ev1_36]; exact (rI_imin hr_v1 hr_r_30)
        refine lv_istore_n (lv' := [(1, .int (iI v1_36)), (0, .ref (sk_ad G v0)), (2, .int (iI v2)), (3, .int (iI v3))]) hx hb (okX5_leastWay (36, .istore_n 1, 1) (List.mem_of_getElem? (i := 23) rfl)) rfl hl (by decide) rfl (fun ls hl => ?_)
        obtain ⟨hr4, hM⟩ := hM
        obtain ⟨v3_37, ev3_37⟩ : ∃ y : Int, y = v3 + 1 := ⟨_, rfl⟩
        have hM := hM v3_37 ev3_37
        have hr_v3_37 : rI v3_37 := by rw [ev3_37]; exact hr4
        refine lv_iinc (v := iI v3_37) (lv' := [(3, .int (iI v3_37)), (1, .int (iI v1_36)), (0, .ref (sk_ad G v0)), (2, .int (iI v2))]) hx hb (okX5_leastWay (37, .iinc 3 1, 3) (List.mem_of_getElem? (i := 24) rfl)) hl (k := 3) rfl (by rw [ev3_37]; exact iI_add _ _) (by decide) rfl (fun ls hl => ?_)
        refine lv_goto (tgt := 17) hx hb (okX5_leastWay (40, .goto (-23), 3) (List.mem_of_getElem? (i := 25) rfl)) (by decide) ?_
        exact (hX_17 v1_36 v3_37 I_30).1 hM hr_v1_36 hr_v3_37 H locs ls hw (lv_sub hl [2, 1, 3, 0] rfl)
    refine (hX_5 v1 v2 I).1 (hM X_5 (fun v1 v2 I hM => (hX_5 v1 v2 I).2 (fun hr_v1 hr_v2 H locs ls hw hl => ?_))) hr_v1 hr_v2 H locs ls hw hl
    refine lv_iload_n hx hb (okX5_leastWay (5, .iload_n 2, 1) (List.mem_of_getElem? (i := 4) rfl)) rfl (lv_at hl 2 rfl) ?_
    refine lv_aload_n hx hb (okX5_leastWay (6, .aload_n 0, 1) (List.mem_of_getElem? (i := 5) rfl)) rfl (lv_at hl 0 rfl) ?_
    have hr1 := hw.1.2.2 v0 1
    refine sk_geti S hK hw hk_v0 (kd_in hk_v0) (C := RX5) (T := TX5) (N := 2) rfl hI5 1 ⟨by decide, rfl, by decide, rfl⟩ rfl (k' := 1) rfl hL1 (okX5_leastWay (7, .getfield 20, 3) (List.mem_of_getElem? (i := 6) rfl)) ?_
    refine sk_icmp_ge (tgt := 49) hx hb hr_v2 hr1 (okX5_leastWay (10, .if_icmp .ge 39, 3) (List.mem_of_getElem? (i := 7) rfl)) (by decide) (fun c10 => ?_) (fun c10 => ?_)
    · have hM := hM.1 c10
      refine lv_iload_n hx hb (okX5_leastWay (49, .iload_n 1, 1) (List.mem_of_getElem? (i := 28) rfl)) rfl (lv_at hl 1 rfl) ?_
      exact sk_iret hx hb hr0 hlocks hK hw hr_v1 hM (okX5_leastWay (50, .ireturn, 1) (List.mem_of_getElem? (i := 29) rfl))
    · have hM := hM.2 c10
      refine lv_iload_n hx hb (okX5_leastWay (13, .iload_n 2, 1) (List.mem_of_getElem? (i := 8) rfl)) rfl (lv_at hl 2 rfl) ?_
      refine lv_iconst (v := iI 1) hx hb (okX5_leastWay (14, .iconst 1, 1) (List.mem_of_getElem? (i := 9) rfl)) rfl ?_
      refine sk_iadd hx hb (okX5_leastWay (15, .iadd, 1) (List.mem_of_getElem? (i := 10) rfl)) ?_
      obtain ⟨hr2, hM⟩ := hM
      refine sk_nm (fun v3_16 ev3_16 => ?_)
      have hM := hM v3_16 ev3_16
      have hr_v3_16 : rI v3_16 := by rw [ev3_16]; exact hr2
      refine lv_istore_n (lv' := [(3, .int (iI v3_16)), (0, .ref (sk_ad G v0)), (1, .int (iI v1)), (2, .int (iI v2))]) hx hb (okX5_leastWay (16, .istore_n 3, 1) (List.mem_of_getElem? (i := 11) rfl)) rfl hl (by decide) rfl (fun ls hl => ?_)
      exact hJ_17 v2 v1 v3_16 I hr_v2 hr_v1 hr_v3_16 hM H locs ls hw (lv_sub hl [1, 2, 3, 0] rfl)
  unfold M_Places_leastWay at hM
  intro H locs hw
  refine lv_ldc (v := iI 1000000) hx hb hown (by rw [show iI 1000000 = (1000000 : Int32) from by decide +kernel]; exact hL0) (okX5_leastWay (0, .ldc 34, 2) (List.mem_of_getElem? (i := 0) rfl)) ?_
  refine lv_istore_n (lv' := [(1, .int (iI 1000000)), (0, .ref (sk_ad G p0))]) hx hb (okX5_leastWay (2, .istore_n 1, 1) (List.mem_of_getElem? (i := 1) rfl)) rfl hl (by decide) rfl (fun ls hl => ?_)
  refine lv_iconst (v := iI 0) hx hb (okX5_leastWay (3, .iconst 0, 1) (List.mem_of_getElem? (i := 2) rfl)) rfl ?_
  refine lv_istore_n (lv' := [(2, .int (iI 0)), (1, .int (iI 1000000)), (0, .ref (sk_ad G p0))]) hx hb (okX5_leastWay (4, .istore_n 2, 1) (List.mem_of_getElem? (i := 3) rfl)) rfl hl (by decide) rfl (fun ls hl => ?_)
  exact hJ_5 p0 1000000 0 I hk_p0 (by decide) (by decide) hM H locs ls hw (lv_sub hl [2, 1, 0] rfl)
def rmX0_isLoose : Room := { frames := 3, cells := 0, slots := 0, locals := 166 }
set_option maxHeartbeats 4000000 in
set_option maxRecDepth 100000 in
theorem c_Air_isLoose (l : Launch) (G : sk_G) {p1 : Int} (hk_p1 : kd p1 = 5) {Q : Int → sk_S → Prop} {I : sk_S} (hM : M_Air_isLoose p1 Q I) : Met l yX0_isLoose wsX0_isLoose rmX0_isLoose (va_Pc [.ref (sk_ad G 36), .ref (sk_ad G p1)] (sk_U G 198 sk_t I)) (sk_Qz G 198 sk_t Q) 0 0 (sk_A G) := by
  refine Met.ofW (cc := cX0_isLoose) (maxL := 2) (ret := (some .boolean)) (by decide) rfl ?_
  intro p e s m args below meth c s₁ B hml hv
  obtain ⟨rfl, hU, hK⟩ := hv
  have hx := B.exec
  have hb := B.bytes
  have hr0 := B.returns
  have hts := atoms_spec (ws := wsX0_isLoose) B.pre
  have hown : s.vm.findClass RX0 = some m.cls := findClass_of_methodNamed B.named
  have hlocks := B.notSynchronized
  have S : CallFix p m c cX0_isLoose 2 s ([.ref (sk_ad G 36), .ref (sk_ad G p1)].toArray) wsX0_isLoose RX0 := ⟨hx, hb, hml, hown, hts⟩
  have hL0 := hts (.fieldLink RX0 7 "SkyLights$Air" "gap" "I") (by decide +kernel)
  have hI0 : ∀ w ∈ u_ws RX0 TX0 4, w ∈ wsX0_isLoose := by decide +kernel
  have hw : sk_W G 198 sk_t I s s.heap [] := ⟨hU, va_S.rf⟩
  have hl := lv_entry ([.ref (sk_ad G 36), .ref (sk_ad G p1)]) (n := 2) (Nat.le_of_ble_eq_true rfl)
  rw [lg_entry_eq]
  generalize (lg_sl ([.ref (sk_ad G 36), .ref (sk_ad G p1)]) ++ List.replicate (2 - (lg_sl ([.ref (sk_ad G 36), .ref (sk_ad G p1)])).length) Slot.unset).toArray = ls at hl ⊢
  have hl : lv_has ls 2 [(0, .ref (sk_ad G 36)), (1, .ref (sk_ad G p1))] := hl
  suffices hgo : ∀ (H : Heap) (locs : List Loc), sk_W G 198 sk_t I s H locs → W p l e (headSpec wsX0_isLoose rmX0_isLoose).room s m ([.ref (sk_ad G 36), .ref (sk_ad G p1)].toArray) below meth c H locs 0 0 (MQ below (sk_Qz G 198 sk_t Q) ([.ref (sk_ad G 36), .ref (sk_ad G p1)].toArray) s 0 0 (sk_A G)) (F0 m 0 ls []) from hgo _ _ hw
  unfold M_Air_isLoose at hM
  intro H locs hw
  refine lv_aload_n hx hb (okX0_isLoose (0, .aload_n 1, 1) (List.mem_of_getElem? (i := 0) rfl)) rfl (lv_at hl 1 rfl) ?_
  refine sk_ci (sk_runV (a := p1) (C := RX5) (As := []) (rest := []) S (c_Places_leastWay l G hk_p1 hM) sk_blind gX0_isLoose_X5_leastWay rfl hdX5_leastWay ⟨⟨rfl, rfl⟩, Nat.le_of_ble_eq_true rfl, Nat.le_of_ble_eq_true rfl⟩ (sk_recv hK hw hk_p1 (kd_in hk_p1) (by decide) rfl) (sk_pre hK hw) rfl hl.1 rfl (Nat.le_of_ble_eq_true rfl) (okX0_isLoose (1, .invokevirtual 22, 3) (List.mem_of_getElem? (i := 1) rfl)) ⟨Nat.zero_le _, Nat.zero_le _⟩) hw (fun r_1 I_1 H locs hr_r_1 hM hw => ?_)
  refine lv_aload_n hx hb (okX0_isLoose (4, .aload_n 0, 1) (List.mem_of_getElem? (i := 2) rfl)) rfl (lv_at hl 0 rfl) ?_
  have hr1 := hw.1.2.2 36 0
  refine sk_geti S hK hw kdn_36 (kd_in kdn_36) (C := RX0) (T := TX0) (N := 4) rfl hI0 0 ⟨by decide, rfl, by decide, rfl⟩ rfl (k' := 0) rfl hL0 (okX0_isLoose (5, .getfield 7, 3) (List.mem_of_getElem? (i := 3) rfl)) ?_
  refine lv_aload_n hx hb (okX0_isLoose (8, .aload_n 0, 1) (List.mem_of_getElem? (i := 4) rfl)) rfl (lv_at hl 0 rfl) ?_
  have hr2 := hw.1.2.2 36 0
  refine sk_geti S hK hw kdn_36 (kd_in kdn_36) (C := RX0) (T := TX0) (N := 4) rfl hI0 0 ⟨by decide, rfl, by decide, rfl⟩ rfl (k' := 0) rfl hL0 (okX0_isLoose (9, .getfield 7, 3) (List.mem_of_getElem? (i := 5) rfl)) ?_
  refine sk_imul hx hb (okX0_isLoose (12, .imul, 1) (List.mem_of_getElem? (i := 6) rfl)) ?_
  obtain ⟨hr3, hM⟩ := hM
  refine sk_icmp_lt (tgt := 20) hx hb hr_r_1 hr3 (okX0_isLoose (13, .if_icmp .lt 7, 3) (List.mem_of_getElem? (i := 7) rfl)) (by decide) (fun c13 => ?_) (fun c13 => ?_)
  · have hM := hM.1 c13
    refine lv_iconst (v := iI 0) hx hb (okX0_isLoose (20, .iconst 0, 1) (List.mem_of_getElem? (i := 10) rfl)) rfl ?_
    exact sk_zret hx hb hr0 hlocks hK hw (Or.inl rfl) hM (okX0_isLoose (21, .ireturn, 1) (List.mem_of_getElem? (i := 11) rfl))
  · have hM := hM.2 c13
    refine lv_iconst (v := iI 1) hx hb (okX0_isLoose (16, .iconst 1, 1) (List.mem_of_getElem? (i := 8) rfl)) rfl ?_
    refine lv_goto (tgt := 21) hx hb (okX0_isLoose (17, .goto 4, 3) (List.mem_of_getElem? (i := 9) rfl)) (by decide) ?_
    exact sk_zret hx hb hr0 hlocks hK hw (Or.inr rfl) hM (okX0_isLoose (21, .ireturn, 1) (List.mem_of_getElem? (i := 11) rfl))
def rmX7_put : Room := { frames := 0, cells := 0, slots := 0, locals := 0 }
set_option maxHeartbeats 4000000 in
set_option maxRecDepth 100000 in
theorem c_Row_put (l : Launch) (G : sk_G) {p0 p1 p2 : Int} (hk_p0 : kd p0 = 7) (hr_p1 : rI p1) (hr_p2 : rI p2) {Q : sk_S → Prop} {I : sk_S} (hM : M_Row_put p0 p1 p2 Q I) : Met l yX7_put wsX7_put rmX7_put (va_Pc [.ref (sk_ad G p0), .int (iI p1), .int (iI p2)] (sk_U G 198 sk_t I)) (sk_Qv G 198 sk_t Q) 0 0 (sk_A G) := by
  refine Met.ofW (cc := cX7_put) (maxL := 3) (ret := none) (by decide) rfl ?_
  intro p e s m args below meth c s₁ B hml hv
  obtain ⟨rfl, hU, hK⟩ := hv
  have hx := B.exec
  have hb := B.bytes
  have hr0 := B.returns
  have hts := atoms_spec (ws := wsX7_put) B.pre
  have hown : s.vm.findClass RX7 = some m.cls := findClass_of_methodNamed B.named
  have hlocks := B.notSynchronized
  have S : CallFix p m c cX7_put 3 s ([.ref (sk_ad G p0), .int (iI p1), .int (iI p2)].toArray) wsX7_put RX7 := ⟨hx, hb, hml, hown, hts⟩
  have hL0 := hts (.fieldLink RX7 7 "SkyLights$Row" "cells" "[I") (by decide +kernel)
  have hI7 : ∀ w ∈ u_ws RX7 TX7 1, w ∈ wsX7_put := by decide +kernel
  have hw : sk_W G 198 sk_t I s s.heap [] := ⟨hU, va_S.rf⟩
  have hl := lv_entry ([.ref (sk_ad G p0), .int (iI p1), .int (iI p2)]) (n := 3) (Nat.le_of_ble_eq_true rfl)
  rw [lg_entry_eq]
  generalize (lg_sl ([.ref (sk_ad G p0), .int (iI p1), .int (iI p2)]) ++ List.replicate (3 - (lg_sl ([.ref (sk_ad G p0), .int (iI p1), .int (iI p2)])).length) Slot.unset).toArray = ls at hl ⊢
  have hl : lv_has ls 3 [(0, .ref (sk_ad G p0)), (1, .int (iI p1)), (2, .int (iI p2))] := hl
  suffices hgo : ∀ (H : Heap) (locs : List Loc), sk_W G 198 sk_t I s H locs → W p l e (headSpec wsX7_put rmX7_put).room s m ([.ref (sk_ad G p0), .int (iI p1), .int (iI p2)].toArray) below meth c H locs 0 0 (MQ below (sk_Qv G 198 sk_t Q) ([.ref (sk_ad G p0), .int (iI p1), .int (iI p2)].toArray) s 0 0 (sk_A G)) (F0 m 0 ls []) from hgo _ _ hw
  unfold M_Row_put at hM
  intro H locs hw
  refine lv_iload_n hx hb (okX7_put (0, .iload_n 1, 1) (List.mem_of_getElem? (i := 0) rfl)) rfl (lv_at hl 1 rfl) ?_
  refine sk_if_lt (tgt := 20) hx hb hr_p1 (okX7_put (1, .ifCond .lt 19, 3) (List.mem_of_getElem? (i := 1) rfl)) (by decide) (fun c1 => ?_) (fun c1 => ?_)
  · have hM := hM.1 c1
    exact sk_vret hx hb hr0 hlocks hK hw hM (okX7_put (20, .return_, 1) (List.mem_of_getElem? (i := 12) rfl))
  · have hM := hM.2 c1
    refine lv_iload_n hx hb (okX7_put (4, .iload_n 1, 1) (List.mem_of_getElem? (i := 2) rfl)) rfl (lv_at hl 1 rfl) ?_
    refine lv_aload_n hx hb (okX7_put (5, .aload_n 0, 1) (List.mem_of_getElem? (i := 3) rfl)) rfl (lv_at hl 0 rfl) ?_
    refine sk_getr (b := (p0 + 1)) S hK hw hk_p0 (kd_in hk_p0) (C := RX7) (T := TX7) (N := 1) rfl hI7 0 ⟨by decide, rfl, by decide, rfl⟩ rfl (k' := 0) rfl rfl (rf7 hk_p0) hL0 (okX7_put (6, .getfield 7, 3) (List.mem_of_getElem? (i := 4) rfl)) ?_
    refine sk_len S hK hw (Or.inl (k7 hk_p0)) (kd_in (k7 hk_p0)) (okX7_put (9, .arraylength, 1) (List.mem_of_getElem? (i := 5) rfl)) ?_
    refine sk_icmp_ge (tgt := 20) hx hb hr_p1 (ln_r _).1 (okX7_put (10, .if_icmp .ge 10, 3) (List.mem_of_getElem? (i := 6) rfl)) (by decide) (fun c10 => ?_) (fun c10 => ?_)
    · have hM := hM.1 c10
      exact sk_vret hx hb hr0 hlocks hK hw hM (okX7_put (20, .return_, 1) (List.mem_of_getElem? (i := 12) rfl))
    · have hM := hM.2 c10
      refine lv_aload_n hx hb (okX7_put (13, .aload_n 0, 1) (List.mem_of_getElem? (i := 7) rfl)) rfl (lv_at hl 0 rfl) ?_
      refine sk_getr (b := (p0 + 1)) S hK hw hk_p0 (kd_in hk_p0) (C := RX7) (T := TX7) (N := 1) rfl hI7 0 ⟨by decide, rfl, by decide, rfl⟩ rfl (k' := 0) rfl rfl (rf7 hk_p0) hL0 (okX7_put (14, .getfield 7, 3) (List.mem_of_getElem? (i := 8) rfl)) ?_
      refine lv_iload_n hx hb (okX7_put (17, .iload_n 1, 1) (List.mem_of_getElem? (i := 9) rfl)) rfl (lv_at hl 1 rfl) ?_
      refine lv_iload_n hx hb (okX7_put (18, .iload_n 2, 1) (List.mem_of_getElem? (i := 10) rfl)) rfl (lv_at hl 2 rfl) ?_
      obtain ⟨hi1, hM⟩ := hM
      refine sk_ist S hK hw (k7 hk_p0) (kd_in (k7 hk_p0)) hi1 hr_p2 (okX7_put (19, .iastore, 1) (List.mem_of_getElem? (i := 11) rfl)) (fun H locs hw => ?_)
      exact sk_vret hx hb hr0 hlocks hK hw hM (okX7_put (20, .return_, 1) (List.mem_of_getElem? (i := 12) rfl))
def rmX1_add : Room := { frames := 1, cells := 0, slots := 0, locals := 54 }
set_option maxHeartbeats 4000000 in
set_option maxRecDepth 100000 in
theorem c_Foreign_add (l : Launch) (G : sk_G) {p1 p2 p3 p4 p5 : Int} (hr_p1 : rI p1) (hr_p2 : rI p2) (hr_p3 : rI p3) (hr_p4 : rI p4) (hr_p5 : rI p5) {Q : sk_S → Prop} {I : sk_S} (hM : M_Foreign_add p1 p2 p3 p4 p5 Q I) : Met l yX1_add wsX1_add rmX1_add (va_Pc [.ref (sk_ad G 149), .int (iI p1), .int (iI p2), .int (iI p3), .int (iI p4), .int (iI p5)] (sk_U G 198 sk_t I)) (sk_Qv G 198 sk_t Q) 0 0 (sk_A G) := by
  refine Met.ofW (cc := cX1_add) (maxL := 6) (ret := none) (by decide) rfl ?_
  intro p e s m args below meth c s₁ B hml hv
  obtain ⟨rfl, hU, hK⟩ := hv
  have hx := B.exec
  have hb := B.bytes
  have hr0 := B.returns
  have hts := atoms_spec (ws := wsX1_add) B.pre
  have hown : s.vm.findClass RX1 = some m.cls := findClass_of_methodNamed B.named
  have hlocks := B.notSynchronized
  have S : CallFix p m c cX1_add 6 s ([.ref (sk_ad G 149), .int (iI p1), .int (iI p2), .int (iI p3), .int (iI p4), .int (iI p5)].toArray) wsX1_add RX1 := ⟨hx, hb, hml, hown, hts⟩
  have hL0 := hts (.fieldLink RX1 16 "SkyLights$Foreign" "cells" "LSkyLights$Row;") (by decide +kernel)
  have hL1 := hts (.fieldLink RX1 29 "SkyLights$Foreign" "size" "I") (by decide +kernel)
  have hL2 := hts (.fieldLink RX1 23 "SkyLights$Foreign" "tails" "LSkyLights$Row;") (by decide +kernel)
  have hL3 := hts (.fieldLink RX1 20 "SkyLights$Foreign" "heads" "LSkyLights$Row;") (by decide +kernel)
  have hI1 : ∀ w ∈ u_ws RX1 TX1 7, w ∈ wsX1_add := by decide +kernel
  have hw : sk_W G 198 sk_t I s s.heap [] := ⟨hU, va_S.rf⟩
  have hl := lv_entry ([.ref (sk_ad G 149), .int (iI p1), .int (iI p2), .int (iI p3), .int (iI p4), .int (iI p5)]) (n := 6) (Nat.le_of_ble_eq_true rfl)
  rw [lg_entry_eq]
  generalize (lg_sl ([.ref (sk_ad G 149), .int (iI p1), .int (iI p2), .int (iI p3), .int (iI p4), .int (iI p5)]) ++ List.replicate (6 - (lg_sl ([.ref (sk_ad G 149), .int (iI p1), .int (iI p2), .int (iI p3), .int (iI p4), .int (iI p5)])).length) Slot.unset).toArray = ls at hl ⊢
  have hl : lv_has ls 6 [(0, .ref (sk_ad G 149)), (1, .int (iI p1)), (2, .int (iI p2)), (3, .int (iI p3)), (4, .int (iI p4)), (5, .int (iI p5))] := hl
  suffices hgo : ∀ (H : Heap) (locs : List Loc), sk_W G 198 sk_t I s H locs → W p l e (headSpec wsX1_add rmX1_add).room s m ([.ref (sk_ad G 149), .int (iI p1), .int (iI p2), .int (iI p3), .int (iI p4), .int (iI p5)].toArray) below meth c H locs 0 0 (MQ below (sk_Qv G 198 sk_t Q) ([.ref (sk_ad G 149), .int (iI p1), .int (iI p2), .int (iI p3), .int (iI p4), .int (iI p5)].toArray) s 0 0 (sk_A G)) (F0 m 0 ls []) from hgo _ _ hw
  have hJ_132 : ∀ (v1 : Int) (I : sk_S), rI v1 → J_Foreign_add_132 v1 Q I → ∀ (H : Heap) (locs : List Loc) (ls : Array Slot), sk_W G 198 sk_t I s H locs → lv_has ls 6 [(0, .ref (sk_ad G 149)), (1, .int (iI v1))] → W p l e (headSpec wsX1_add rmX1_add).room s m ([.ref (sk_ad G 149), .int (iI p1), .int (iI p2), .int (iI p3), .int (iI p4), .int (iI p5)].toArray) below meth c H locs 0 0 (MQ below (sk_Qv G 198 sk_t Q) ([.ref (sk_ad G 149), .int (iI p1), .int (iI p2), .int (iI p3), .int (iI p4), .int (iI p5)].toArray) s 0 0 (sk_A G)) (F0 m 132 ls []) := by
    intro v1 I hr_v1 hM H locs ls hw hl
    unfold J_Foreign_add_132 at hM
    refine lv_aload_n hx hb (okX1_add (132, .aload_n 0, 1) (List.mem_of_getElem? (i := 76) rfl)) rfl (lv_at hl 0 rfl) ?_
    refine sk_getr (b := 154) S hK hw kdn_149 (kd_in kdn_149) (C := RX1) (T := TX1) (N := 7) rfl hI1 2 ⟨by decide, rfl, by decide, rfl⟩ rfl (k' := 2) rfl rfl (by decide +kernel) hL2 (okX1_add (133, .getfield 23, 3) (List.mem_of_getElem? (i := 77) rfl)) ?_
    refine lv_iload_n hx hb (okX1_add (136, .iload_n 1, 1) (List.mem_of_getElem? (i := 78) rfl)) rfl (lv_at hl 1 rfl) ?_
    refine lv_aload_n hx hb (okX1_add (137, .aload_n 0, 1) (List.mem_of_getElem? (i := 79) rfl)) rfl (lv_at hl 0 rfl) ?_
    have hr14 := hw.1.2.2 149 4
    refine sk_geti S hK hw kdn_149 (kd_in kdn_149) (C := RX1) (T := TX1) (N := 7) rfl hI1 4 ⟨by decide, rfl, by decide, rfl⟩ rfl (k' := 4) rfl hL1 (okX1_add (138, .getfield 29, 3) (List.mem_of_getElem? (i := 80) rfl)) ?_
    refine sk_cv (sk_runV (a := 154) (C := RX7) (As := [.int (iI v1), .int (iI (I 149 4))]) (rest := []) S (c_Row_put l G kdn_154 hr_v1 hr14 hM) sk_blind gX1_add_X7_put rfl hdX7_put ⟨⟨rfl, rfl⟩, Nat.le_of_ble_eq_true rfl, Nat.le_of_ble_eq_true rfl⟩ (sk_recv hK hw kdn_154 (kd_in kdn_154) (by decide) rfl) (sk_pre hK hw) rfl hl.1 rfl (Nat.le_of_ble_eq_true rfl) (okX1_add (141, .invokevirtual 50, 3) (List.mem_of_getElem? (i := 81) rfl)) ⟨Nat.zero_le _, Nat.zero_le _⟩) hw (fun I_141 H locs hM hw => ?_)
    refine lv_aload_n hx hb (okX1_add (144, .aload_n 0, 1) (List.mem_of_getElem? (i := 82) rfl)) rfl (lv_at hl 0 rfl) ?_
    refine lv_dup hx hb (okX1_add (145, .dup, 1) (List.mem_of_getElem? (i := 83) rfl)) rfl ?_
    have hr15 := hw.1.2.2 149 4
    refine sk_geti S hK hw kdn_149 (kd_in kdn_149) (C := RX1) (T := TX1) (N := 7) rfl hI1 4 ⟨by decide, rfl, by decide, rfl⟩ rfl (k' := 4) rfl hL1 (okX1_add (146, .getfield 29, 3) (List.mem_of_getElem? (i := 84) rfl)) ?_
    refine lv_iconst (v := iI 1) hx hb (okX1_add (149, .iconst 1, 1) (List.mem_of_getElem? (i := 85) rfl)) rfl ?_
    refine sk_iadd hx hb (okX1_add (150, .iadd, 1) (List.mem_of_getElem? (i := 86) rfl)) ?_
    obtain ⟨hr16, hM⟩ := hM
    refine sk_put S hK hw kdn_149 (kd_in kdn_149) (C := RX1) (T := TX1) (N := 7) rfl hI1 tyX1 tyX1_ok nmX1 4 ⟨by decide, rfl, by decide, rfl⟩ rfl rfl (k' := 4) rfl hr16 ⟨rfl, rfl⟩ hL1 (okX1_add (151, .putfield 29, 3) (List.mem_of_getElem? (i := 87) rfl)) (fun H locs hw => ?_)
    exact sk_vret hx hb hr0 hlocks hK hw hM (okX1_add (154, .return_, 1) (List.mem_of_getElem? (i := 88) rfl))
  unfold M_Foreign_add at hM
  intro H locs hw
  refine lv_aload_n hx hb (okX1_add (0, .aload_n 0, 1) (List.mem_of_getElem? (i := 0) rfl)) rfl (lv_at hl 0 rfl) ?_
  refine sk_getr (b := 150) S hK hw kdn_149 (kd_in kdn_149) (C := RX1) (T := TX1) (N := 7) rfl hI1 0 ⟨by decide, rfl, by decide, rfl⟩ rfl (k' := 0) rfl rfl (by decide +kernel) hL0 (okX1_add (1, .getfield 16, 3) (List.mem_of_getElem? (i := 1) rfl)) ?_
  refine lv_aload_n hx hb (okX1_add (4, .aload_n 0, 1) (List.mem_of_getElem? (i := 2) rfl)) rfl (lv_at hl 0 rfl) ?_
  have hr1 := hw.1.2.2 149 4
  refine sk_geti S hK hw kdn_149 (kd_in kdn_149) (C := RX1) (T := TX1) (N := 7) rfl hI1 4 ⟨by decide, rfl, by decide, rfl⟩ rfl (k' := 4) rfl hL1 (okX1_add (5, .getfield 29, 3) (List.mem_of_getElem? (i := 3) rfl)) ?_
  refine lv_iconst (v := iI 5) hx hb (okX1_add (8, .iconst 5, 1) (List.mem_of_getElem? (i := 4) rfl)) rfl ?_
  refine sk_imul hx hb (okX1_add (9, .imul, 1) (List.mem_of_getElem? (i := 5) rfl)) ?_
  refine lv_iconst (v := iI 0) hx hb (okX1_add (10, .iconst 0, 1) (List.mem_of_getElem? (i := 6) rfl)) rfl ?_
  refine sk_iadd hx hb (okX1_add (11, .iadd, 1) (List.mem_of_getElem? (i := 7) rfl)) ?_
  refine lv_iload_n hx hb (okX1_add (12, .iload_n 3, 1) (List.mem_of_getElem? (i := 8) rfl)) rfl (lv_at hl 3 rfl) ?_
  obtain ⟨hr2, hM⟩ := hM
  refine sk_cv (sk_runV (a := 150) (C := RX7) (As := [.int (iI (((I 149 4) * 5) + 0)), .int (iI p3)]) (rest := []) S (c_Row_put l G kdn_150 hr2 hr_p3 hM) sk_blind gX1_add_X7_put rfl hdX7_put ⟨⟨rfl, rfl⟩, Nat.le_of_ble_eq_true rfl, Nat.le_of_ble_eq_true rfl⟩ (sk_recv hK hw kdn_150 (kd_in kdn_150) (by decide) rfl) (sk_pre hK hw) rfl hl.1 rfl (Nat.le_of_ble_eq_true rfl) (okX1_add (13, .invokevirtual 50, 3) (List.mem_of_getElem? (i := 9) rfl)) ⟨Nat.zero_le _, Nat.zero_le _⟩) hw (fun I_13 H locs hM hw => ?_)
  refine lv_aload_n hx hb (okX1_add (16, .aload_n 0, 1) (List.mem_of_getElem? (i := 10) rfl)) rfl (lv_at hl 0 rfl) ?_
  refine sk_getr (b := 150) S hK hw kdn_149 (kd_in kdn_149) (C := RX1) (T := TX1) (N := 7) rfl hI1 0 ⟨by decide, rfl, by decide, rfl⟩ rfl (k' := 0) rfl rfl (by decide +kernel) hL0 (okX1_add (17, .getfield 16, 3) (List.mem_of_getElem? (i := 11) rfl)) ?_
  refine lv_aload_n hx hb (okX1_add (20, .aload_n 0, 1) (List.mem_of_getElem? (i := 12) rfl)) rfl (lv_at hl 0 rfl) ?_
  have hr3 := hw.1.2.2 149 4
  refine sk_geti S hK hw kdn_149 (kd_in kdn_149) (C := RX1) (T := TX1) (N := 7) rfl hI1 4 ⟨by decide, rfl, by decide, rfl⟩ rfl (k' := 4) rfl hL1 (okX1_add (21, .getfield 29, 3) (List.mem_of_getElem? (i := 13) rfl)) ?_
  refine lv_iconst (v := iI 5) hx hb (okX1_add (24, .iconst 5, 1) (List.mem_of_getElem? (i := 14) rfl)) rfl ?_
  refine sk_imul hx hb (okX1_add (25, .imul, 1) (List.mem_of_getElem? (i := 15) rfl)) ?_
  refine lv_iconst (v := iI 1) hx hb (okX1_add (26, .iconst 1, 1) (List.mem_of_getElem? (i := 16) rfl)) rfl ?_
  refine sk_iadd hx hb (okX1_add (27, .iadd, 1) (List.mem_of_getElem? (i := 17) rfl)) ?_
  refine lv_iload hx hb (okX1_add (28, .iload 4, 2) (List.mem_of_getElem? (i := 18) rfl)) (lv_at hl 4 rfl) ?_
  obtain ⟨hr4, hM⟩ := hM
  refine sk_cv (sk_runV (a := 150) (C := RX7) (As := [.int (iI (((I_13 149 4) * 5) + 1)), .int (iI p4)]) (rest := []) S (c_Row_put l G kdn_150 hr4 hr_p4 hM) sk_blind gX1_add_X7_put rfl hdX7_put ⟨⟨rfl, rfl⟩, Nat.le_of_ble_eq_true rfl, Nat.le_of_ble_eq_true rfl⟩ (sk_recv hK hw kdn_150 (kd_in kdn_150) (by decide) rfl) (sk_pre hK hw) rfl hl.1 rfl (Nat.le_of_ble_eq_true rfl) (okX1_add (30, .invokevirtual 50, 3) (List.mem_of_getElem? (i := 19) rfl)) ⟨Nat.zero_le _, Nat.zero_le _⟩) hw (fun I_30 H locs hM hw => ?_)
  refine lv_aload_n hx hb (okX1_add (33, .aload_n 0, 1) (List.mem_of_getElem? (i := 20) rfl)) rfl (lv_at hl 0 rfl) ?_
  refine sk_getr (b := 150) S hK hw kdn_149 (kd_in kdn_149) (C := RX1) (T := TX1) (N := 7) rfl hI1 0 ⟨by decide, rfl, by decide, rfl⟩ rfl (k' := 0) rfl rfl (by decide +kernel) hL0 (okX1_add (34, .getfield 16, 3) (List.mem_of_getElem? (i := 21) rfl)) ?_
  refine lv_aload_n hx hb (okX1_add (37, .aload_n 0, 1) (List.mem_of_getElem? (i := 22) rfl)) rfl (lv_at hl 0 rfl) ?_
  have hr5 := hw.1.2.2 149 4
  refine sk_geti S hK hw kdn_149 (kd_in kdn_149) (C := RX1) (T := TX1) (N := 7) rfl hI1 4 ⟨by decide, rfl, by decide, rfl⟩ rfl (k' := 4) rfl hL1 (okX1_add (38, .getfield 29, 3) (List.mem_of_getElem? (i := 23) rfl)) ?_
  refine lv_iconst (v := iI 5) hx hb (okX1_add (41, .iconst 5, 1) (List.mem_of_getElem? (i := 24) rfl)) rfl ?_
  refine sk_imul hx hb (okX1_add (42, .imul, 1) (List.mem_of_getElem? (i := 25) rfl)) ?_
  refine lv_iconst (v := iI 2) hx hb (okX1_add (43, .iconst 2, 1) (List.mem_of_getElem? (i := 26) rfl)) rfl ?_
  refine sk_iadd hx hb (okX1_add (44, .iadd, 1) (List.mem_of_getElem? (i := 27) rfl)) ?_
  refine lv_iload hx hb (okX1_add (45, .iload 5, 2) (List.mem_of_getElem? (i := 28) rfl)) (lv_at hl 5 rfl) ?_
  obtain ⟨hr6, hM⟩ := hM
  refine sk_cv (sk_runV (a := 150) (C := RX7) (As := [.int (iI (((I_30 149 4) * 5) + 2)), .int (iI p5)]) (rest := []) S (c_Row_put l G kdn_150 hr6 hr_p5 hM) sk_blind gX1_add_X7_put rfl hdX7_put ⟨⟨rfl, rfl⟩, Nat.le_of_ble_eq_true rfl, Nat.le_of_ble_eq_true rfl⟩ (sk_recv hK hw kdn_150 (kd_in kdn_150) (by decide) rfl) (sk_pre hK hw) rfl hl.1 rfl (Nat.le_of_ble_eq_true rfl) (okX1_add (47, .invokevirtual 50, 3) (List.mem_of_getElem? (i := 29) rfl)) ⟨Nat.zero_le _, Nat.zero_le _⟩) hw (fun I_47 H locs hM hw => ?_)
  refine lv_aload_n hx hb (okX1_add (50, .aload_n 0, 1) (List.mem_of_getElem? (i := 30) rfl)) rfl (lv_at hl 0 rfl) ?_
  refine sk_getr (b := 150) S hK hw kdn_149 (kd_in kdn_149) (C := RX1) (T := TX1) (N := 7) rfl hI1 0 ⟨by decide, rfl, by decide, rfl⟩ rfl (k' := 0) rfl rfl (by decide +kernel) hL0 (okX1_add (51, .getfield 16, 3) (List.mem_of_getElem? (i := 31) rfl)) ?_
  refine lv_aload_n hx hb (okX1_add (54, .aload_n 0, 1) (List.mem_of_getElem? (i := 32) rfl)) rfl (lv_at hl 0 rfl) ?_
  have hr7 := hw.1.2.2 149 4
  refine sk_geti S hK hw kdn_149 (kd_in kdn_149) (C := RX1) (T := TX1) (N := 7) rfl hI1 4 ⟨by decide, rfl, by decide, rfl⟩ rfl (k' := 4) rfl hL1 (okX1_add (55, .getfield 29, 3) (List.mem_of_getElem? (i := 33) rfl)) ?_
  refine lv_iconst (v := iI 5) hx hb (okX1_add (58, .iconst 5, 1) (List.mem_of_getElem? (i := 34) rfl)) rfl ?_
  refine sk_imul hx hb (okX1_add (59, .imul, 1) (List.mem_of_getElem? (i := 35) rfl)) ?_
  refine lv_iconst (v := iI 3) hx hb (okX1_add (60, .iconst 3, 1) (List.mem_of_getElem? (i := 36) rfl)) rfl ?_
  refine sk_iadd hx hb (okX1_add (61, .iadd, 1) (List.mem_of_getElem? (i := 37) rfl)) ?_
  refine lv_iload_n hx hb (okX1_add (62, .iload_n 2, 1) (List.mem_of_getElem? (i := 38) rfl)) rfl (lv_at hl 2 rfl) ?_
  obtain ⟨hr8, hM⟩ := hM
  refine sk_cv (sk_runV (a := 150) (C := RX7) (As := [.int (iI (((I_47 149 4) * 5) + 3)), .int (iI p2)]) (rest := []) S (c_Row_put l G kdn_150 hr8 hr_p2 hM) sk_blind gX1_add_X7_put rfl hdX7_put ⟨⟨rfl, rfl⟩, Nat.le_of_ble_eq_true rfl, Nat.le_of_ble_eq_true rfl⟩ (sk_recv hK hw kdn_150 (kd_in kdn_150) (by decide) rfl) (sk_pre hK hw) rfl hl.1 rfl (Nat.le_of_ble_eq_true rfl) (okX1_add (63, .invokevirtual 50, 3) (List.mem_of_getElem? (i := 39) rfl)) ⟨Nat.zero_le _, Nat.zero_le _⟩) hw (fun I_63 H locs hM hw => ?_)
  refine lv_aload_n hx hb (okX1_add (66, .aload_n 0, 1) (List.mem_of_getElem? (i := 40) rfl)) rfl (lv_at hl 0 rfl) ?_
  refine sk_getr (b := 150) S hK hw kdn_149 (kd_in kdn_149) (C := RX1) (T := TX1) (N := 7) rfl hI1 0 ⟨by decide, rfl, by decide, rfl⟩ rfl (k' := 0) rfl rfl (by decide +kernel) hL0 (okX1_add (67, .getfield 16, 3) (List.mem_of_getElem? (i := 41) rfl)) ?_
  refine lv_aload_n hx hb (okX1_add (70, .aload_n 0, 1) (List.mem_of_getElem? (i := 42) rfl)) rfl (lv_at hl 0 rfl) ?_
  have hr9 := hw.1.2.2 149 4
  refine sk_geti S hK hw kdn_149 (kd_in kdn_149) (C := RX1) (T := TX1) (N := 7) rfl hI1 4 ⟨by decide, rfl, by decide, rfl⟩ rfl (k' := 4) rfl hL1 (okX1_add (71, .getfield 29, 3) (List.mem_of_getElem? (i := 43) rfl)) ?_
  refine lv_iconst (v := iI 5) hx hb (okX1_add (74, .iconst 5, 1) (List.mem_of_getElem? (i := 44) rfl)) rfl ?_
  refine sk_imul hx hb (okX1_add (75, .imul, 1) (List.mem_of_getElem? (i := 45) rfl)) ?_
  refine lv_iconst (v := iI 4) hx hb (okX1_add (76, .iconst 4, 1) (List.mem_of_getElem? (i := 46) rfl)) rfl ?_
  refine sk_iadd hx hb (okX1_add (77, .iadd, 1) (List.mem_of_getElem? (i := 47) rfl)) ?_
  refine lv_iconst (v := iI (-1)) hx hb (okX1_add (78, .iconst (-1), 1) (List.mem_of_getElem? (i := 48) rfl)) rfl ?_
  obtain ⟨hr10, hM⟩ := hM
  refine sk_cv (sk_runV (a := 150) (C := RX7) (As := [.int (iI (((I_63 149 4) * 5) + 4)), .int (iI ((-1)))]) (rest := []) S (c_Row_put l G kdn_150 hr10 (by decide) hM) sk_blind gX1_add_X7_put rfl hdX7_put ⟨⟨rfl, rfl⟩, Nat.le_of_ble_eq_true rfl, Nat.le_of_ble_eq_true rfl⟩ (sk_recv hK hw kdn_150 (kd_in kdn_150) (by decide) rfl) (sk_pre hK hw) rfl hl.1 rfl (Nat.le_of_ble_eq_true rfl) (okX1_add (79, .invokevirtual 50, 3) (List.mem_of_getElem? (i := 49) rfl)) ⟨Nat.zero_le _, Nat.zero_le _⟩) hw (fun I_79 H locs hM hw => ?_)
  refine lv_aload_n hx hb (okX1_add (82, .aload_n 0, 1) (List.mem_of_getElem? (i := 50) rfl)) rfl (lv_at hl 0 rfl) ?_
  refine sk_getr (b := 154) S hK hw kdn_149 (kd_in kdn_149) (C := RX1) (T := TX1) (N := 7) rfl hI1 2 ⟨by decide, rfl, by decide, rfl⟩ rfl (k' := 2) rfl rfl (by decide +kernel) hL2 (okX1_add (83, .getfield 23, 3) (List.mem_of_getElem? (i := 51) rfl)) ?_
  refine lv_iload_n hx hb (okX1_add (86, .iload_n 1, 1) (List.mem_of_getElem? (i := 52) rfl)) rfl (lv_at hl 1 rfl) ?_
  refine sk_ci (sk_runV (a := 154) (C := RX7) (As := [.int (iI p1)]) (rest := []) S (c_Row_at l G kdn_154 hr_p1 hM) sk_blind gX1_add_X7_at rfl hdX7_at ⟨⟨rfl, rfl⟩, Nat.le_of_ble_eq_true rfl, Nat.le_of_ble_eq_true rfl⟩ (sk_recv hK hw kdn_154 (kd_in kdn_154) (by decide) rfl) (sk_pre hK hw) rfl hl.1 rfl (Nat.le_of_ble_eq_true rfl) (okX1_add (87, .invokevirtual 42, 3) (List.mem_of_getElem? (i := 53) rfl)) ⟨Nat.zero_le _, Nat.zero_le _⟩) hw (fun r_87 I_87 H locs hr_r_87 hM hw => ?_)
  refine lv_iconst (v := iI (-1)) hx hb (okX1_add (90, .iconst (-1), 1) (List.mem_of_getElem? (i := 54) rfl)) rfl ?_
  refine sk_icmp_ne (tgt := 109) hx hb hr_r_87 (by decide) (okX1_add (91, .if_icmp .ne 18, 3) (List.mem_of_getElem? (i := 55) rfl)) (by decide) (fun c91 => ?_) (fun c91 => ?_)
  · have hM := hM.1 c91
    refine lv_aload_n hx hb (okX1_add (109, .aload_n 0, 1) (List.mem_of_getElem? (i := 63) rfl)) rfl (lv_at hl 0 rfl) ?_
    refine sk_getr (b := 150) S hK hw kdn_149 (kd_in kdn_149) (C := RX1) (T := TX1) (N := 7) rfl hI1 0 ⟨by decide, rfl, by decide, rfl⟩ rfl (k' := 0) rfl rfl (by decide +kernel) hL0 (okX1_add (110, .getfield 16, 3) (List.mem_of_getElem? (i := 64) rfl)) ?_
    refine lv_aload_n hx hb (okX1_add (113, .aload_n 0, 1) (List.mem_of_getElem? (i := 65) rfl)) rfl (lv_at hl 0 rfl) ?_
    refine sk_getr (b := 154) S hK hw kdn_149 (kd_in kdn_149) (C := RX1) (T := TX1) (N := 7) rfl hI1 2 ⟨by decide, rfl, by decide, rfl⟩ rfl (k' := 2) rfl rfl (by decide +kernel) hL2 (okX1_add (114, .getfield 23, 3) (List.mem_of_getElem? (i := 66) rfl)) ?_
    refine lv_iload_n hx hb (okX1_add (117, .iload_n 1, 1) (List.mem_of_getElem? (i := 67) rfl)) rfl (lv_at hl 1 rfl) ?_
    refine sk_ci (sk_runV (a := 154) (C := RX7) (As := [.int (iI p1)]) (rest := [.ref (sk_ad G 150)]) S (c_Row_at l G kdn_154 hr_p1 hM) sk_blind gX1_add_X7_at rfl hdX7_at ⟨⟨rfl, rfl⟩, Nat.le_of_ble_eq_true rfl, Nat.le_of_ble_eq_true rfl⟩ (sk_recv hK hw kdn_154 (kd_in kdn_154) (by decide) rfl) (sk_pre hK hw) rfl hl.1 rfl (Nat.le_of_ble_eq_true rfl) (okX1_add (118, .invokevirtual 42, 3) (List.mem_of_getElem? (i := 68) rfl)) ⟨Nat.zero_le _, Nat.zero_le _⟩) hw (fun r_118 I_118 H locs hr_r_118 hM hw => ?_)
    refine lv_iconst (v := iI 5) hx hb (okX1_add (121, .iconst 5, 1) (List.mem_of_getElem? (i := 69) rfl)) rfl ?_
    refine sk_imul hx hb (okX1_add (122, .imul, 1) (List.mem_of_getElem? (i := 70) rfl)) ?_
    refine lv_iconst (v := iI 4) hx hb (okX1_add (123, .iconst 4, 1) (List.mem_of_getElem? (i := 71) rfl)) rfl ?_
    refine sk_iadd hx hb (okX1_add (124, .iadd, 1) (List.mem_of_getElem? (i := 72) rfl)) ?_
    refine lv_aload_n hx hb (okX1_add (125, .aload_n 0, 1) (List.mem_of_getElem? (i := 73) rfl)) rfl (lv_at hl 0 rfl) ?_
    have hr11 := hw.1.2.2 149 4
    refine sk_geti S hK hw kdn_149 (kd_in kdn_149) (C := RX1) (T := TX1) (N := 7) rfl hI1 4 ⟨by decide, rfl, by decide, rfl⟩ rfl (k' := 4) rfl hL1 (okX1_add (126, .getfield 29, 3) (List.mem_of_getElem? (i := 74) rfl)) ?_
    obtain ⟨hr12, hM⟩ := hM
    refine sk_cv (sk_runV (a := 150) (C := RX7) (As := [.int (iI ((r_118 * 5) + 4)), .int (iI (I_118 149 4))]) (rest := []) S (c_Row_put l G kdn_150 hr12 hr11 hM) sk_blind gX1_add_X7_put rfl hdX7_put ⟨⟨rfl, rfl⟩, Nat.le_of_ble_eq_true rfl, Nat.le_of_ble_eq_true rfl⟩ (sk_recv hK hw kdn_150 (kd_in kdn_150) (by decide) rfl) (sk_pre hK hw) rfl hl.1 rfl (Nat.le_of_ble_eq_true rfl) (okX1_add (129, .invokevirtual 50, 3) (List.mem_of_getElem? (i := 75) rfl)) ⟨Nat.zero_le _, Nat.zero_le _⟩) hw (fun I_129 H locs hM hw => ?_)
    exact hJ_132 p1 I_129 hr_p1 hM H locs ls hw (lv_sub hl [0, 1] rfl)
  · have hM := hM.2 c91
    refine lv_aload_n hx hb (okX1_add (94, .aload_n 0, 1) (List.mem_of_getElem? (i := 56) rfl)) rfl (lv_at hl 0 rfl) ?_
    refine sk_getr (b := 152) S hK hw kdn_149 (kd_in kdn_149) (C := RX1) (T := TX1) (N := 7) rfl hI1 1 ⟨by decide, rfl, by decide, rfl⟩ rfl (k' := 1) rfl rfl (by decide +kernel) hL3 (okX1_add (95, .getfield 20, 3) (List.mem_of_getElem? (i := 57) rfl)) ?_
    refine lv_iload_n hx hb (okX1_add (98, .iload_n 1, 1) (List.mem_of_getElem? (i := 58) rfl)) rfl (lv_at hl 1 rfl) ?_
    refine lv_aload_n hx hb (okX1_add (99, .aload_n 0, 1) (List.mem_of_getElem? (i := 59) rfl)) rfl (lv_at hl 0 rfl) ?_
    have hr13 := hw.1.2.2 149 4
    refine sk_geti S hK hw kdn_149 (kd_in kdn_149) (C := RX1) (T := TX1) (N := 7) rfl hI1 4 ⟨by decide, rfl, by decide, rfl⟩ rfl (k' := 4) rfl hL1 (okX1_add (100, .getfield 29, 3) (List.mem_of_getElem? (i := 60) rfl)) ?_
    refine sk_cv (sk_runV (a := 152) (C := RX7) (As := [.int (iI p1), .int (iI (I_87 149 4))]) (rest := []) S (c_Row_put l G kdn_152 hr_p1 hr13 hM) sk_blind gX1_add_X7_put rfl hdX7_put ⟨⟨rfl, rfl⟩, Nat.le_of_ble_eq_true rfl, Nat.le_of_ble_eq_true rfl⟩ (sk_recv hK hw kdn_152 (kd_in kdn_152) (by decide) rfl) (sk_pre hK hw) rfl hl.1 rfl (Nat.le_of_ble_eq_true rfl) (okX1_add (103, .invokevirtual 50, 3) (List.mem_of_getElem? (i := 61) rfl)) ⟨Nat.zero_le _, Nat.zero_le _⟩) hw (fun I_103 H locs hM hw => ?_)
    refine lv_goto (tgt := 132) hx hb (okX1_add (106, .goto 26, 3) (List.mem_of_getElem? (i := 62) rfl)) (by decide) ?_
    exact hJ_132 p1 I_103 hr_p1 hM H locs ls hw (lv_sub hl [0, 1] rfl)
def rmX1_end : Room := { frames := 1, cells := 0, slots := 0, locals := 53 }
set_option maxHeartbeats 4000000 in
set_option maxRecDepth 100000 in
theorem c_Foreign_end (l : Launch) (G : sk_G) {p1 : Int} (hr_p1 : rI p1) {Q : Int → sk_S → Prop} {I : sk_S} (hM : M_Foreign_end p1 Q I) : Met l yX1_end wsX1_end rmX1_end (va_Pc [.ref (sk_ad G 149), .int (iI p1)] (sk_U G 198 sk_t I)) (sk_Qi G 198 sk_t Q) 0 0 (sk_A G) := by
  refine Met.ofW (cc := cX1_end) (maxL := 4) (ret := (some .int)) (by decide) rfl ?_
  intro p e s m args below meth c s₁ B hml hv
  obtain ⟨rfl, hU, hK⟩ := hv
  have hx := B.exec
  have hb := B.bytes
  have hr0 := B.returns
  have hts := atoms_spec (ws := wsX1_end) B.pre
  have hown : s.vm.findClass RX1 = some m.cls := findClass_of_methodNamed B.named
  have hlocks := B.notSynchronized
  have S : CallFix p m c cX1_end 4 s ([.ref (sk_ad G 149), .int (iI p1)].toArray) wsX1_end RX1 := ⟨hx, hb, hml, hown, hts⟩
  have hL0 := hts (.fieldLink RX1 16 "SkyLights$Foreign" "cells" "LSkyLights$Row;") (by decide +kernel)
  have hI1 : ∀ w ∈ u_ws RX1 TX1 7, w ∈ wsX1_end := by decide +kernel
  have hw : sk_W G 198 sk_t I s s.heap [] := ⟨hU, va_S.rf⟩
  have hl := lv_entry ([.ref (sk_ad G 149), .int (iI p1)]) (n := 4) (Nat.le_of_ble_eq_true rfl)
  rw [lg_entry_eq]
  generalize (lg_sl ([.ref (sk_ad G 149), .int (iI p1)]) ++ List.replicate (4 - (lg_sl ([.ref (sk_ad G 149), .int (iI p1)])).length) Slot.unset).toArray = ls at hl ⊢
  have hl : lv_has ls 4 [(0, .ref (sk_ad G 149)), (1, .int (iI p1))] := hl
  suffices hgo : ∀ (H : Heap) (locs : List Loc), sk_W G 198 sk_t I s H locs → W p l e (headSpec wsX1_end rmX1_end).room s m ([.ref (sk_ad G 149), .int (iI p1)].toArray) below meth c H locs 0 0 (MQ below (sk_Qi G 198 sk_t Q) ([.ref (sk_ad G 149), .int (iI p1)].toArray) s 0 0 (sk_A G)) (F0 m 0 ls []) from hgo _ _ hw
  unfold M_Foreign_end at hM
  intro H locs hw
  refine lv_aload_n hx hb (okX1_end (0, .aload_n 0, 1) (List.mem_of_getElem? (i := 0) rfl)) rfl (lv_at hl 0 rfl) ?_
  refine sk_getr (b := 150) S hK hw kdn_149 (kd_in kdn_149) (C := RX1) (T := TX1) (N := 7) rfl hI1 0 ⟨by decide, rfl, by decide, rfl⟩ rfl (k' := 0) rfl rfl (by decide +kernel) hL0 (okX1_end (1, .getfield 16, 3) (List.mem_of_getElem? (i := 1) rfl)) ?_
  refine lv_iload_n hx hb (okX1_end (4, .iload_n 1, 1) (List.mem_of_getElem? (i := 2) rfl)) rfl (lv_at hl 1 rfl) ?_
  refine lv_iconst (v := iI 5) hx hb (okX1_end (5, .iconst 5, 1) (List.mem_of_getElem? (i := 3) rfl)) rfl ?_
  refine sk_imul hx hb (okX1_end (6, .imul, 1) (List.mem_of_getElem? (i := 4) rfl)) ?_
  refine lv_iconst (v := iI 4) hx hb (okX1_end (7, .iconst 4, 1) (List.mem_of_getElem? (i := 5) rfl)) rfl ?_
  refine sk_iadd hx hb (okX1_end (8, .iadd, 1) (List.mem_of_getElem? (i := 6) rfl)) ?_
  obtain ⟨hr1, hM⟩ := hM
  refine sk_ci (sk_runV (a := 150) (C := RX7) (As := [.int (iI ((p1 * 5) + 4))]) (rest := []) S (c_Row_at l G kdn_150 hr1 hM) sk_blind gX1_end_X7_at rfl hdX7_at ⟨⟨rfl, rfl⟩, Nat.le_of_ble_eq_true rfl, Nat.le_of_ble_eq_true rfl⟩ (sk_recv hK hw kdn_150 (kd_in kdn_150) (by decide) rfl) (sk_pre hK hw) rfl hl.1 rfl (Nat.le_of_ble_eq_true rfl) (okX1_end (9, .invokevirtual 42, 3) (List.mem_of_getElem? (i := 7) rfl)) ⟨Nat.zero_le _, Nat.zero_le _⟩) hw (fun r_9 I_9 H locs hr_r_9 hM hw => ?_)
  refine lv_istore_n (lv' := [(2, .int (iI r_9)), (0, .ref (sk_ad G 149)), (1, .int (iI p1))]) hx hb (okX1_end (12, .istore_n 2, 1) (List.mem_of_getElem? (i := 8) rfl)) rfl hl (by decide) rfl (fun ls hl => ?_)
  refine lv_aload_n hx hb (okX1_end (13, .aload_n 0, 1) (List.mem_of_getElem? (i := 9) rfl)) rfl (lv_at hl 1 rfl) ?_
  refine sk_getr (b := 150) S hK hw kdn_149 (kd_in kdn_149) (C := RX1) (T := TX1) (N := 7) rfl hI1 0 ⟨by decide, rfl, by decide, rfl⟩ rfl (k' := 0) rfl rfl (by decide +kernel) hL0 (okX1_end (14, .getfield 16, 3) (List.mem_of_getElem? (i := 10) rfl)) ?_
  refine lv_iload_n hx hb (okX1_end (17, .iload_n 1, 1) (List.mem_of_getElem? (i := 11) rfl)) rfl (lv_at hl 2 rfl) ?_
  refine lv_iconst (v := iI 5) hx hb (okX1_end (18, .iconst 5, 1) (List.mem_of_getElem? (i := 12) rfl)) rfl ?_
  refine sk_imul hx hb (okX1_end (19, .imul, 1) (List.mem_of_getElem? (i := 13) rfl)) ?_
  refine lv_iconst (v := iI 3) hx hb (okX1_end (20, .iconst 3, 1) (List.mem_of_getElem? (i := 14) rfl)) rfl ?_
  refine sk_iadd hx hb (okX1_end (21, .iadd, 1) (List.mem_of_getElem? (i := 15) rfl)) ?_
  obtain ⟨hr2, hM⟩ := hM
  refine sk_ci (sk_runV (a := 150) (C := RX7) (As := [.int (iI ((p1 * 5) + 3))]) (rest := []) S (c_Row_at l G kdn_150 hr2 hM) sk_blind gX1_end_X7_at rfl hdX7_at ⟨⟨rfl, rfl⟩, Nat.le_of_ble_eq_true rfl, Nat.le_of_ble_eq_true rfl⟩ (sk_recv hK hw kdn_150 (kd_in kdn_150) (by decide) rfl) (sk_pre hK hw) rfl hl.1 rfl (Nat.le_of_ble_eq_true rfl) (okX1_end (22, .invokevirtual 42, 3) (List.mem_of_getElem? (i := 16) rfl)) ⟨Nat.zero_le _, Nat.zero_le _⟩) hw (fun r_22 I_22 H locs hr_r_22 hM hw => ?_)
  refine lv_iconst (v := iI 1) hx hb (okX1_end (25, .iconst 1, 1) (List.mem_of_getElem? (i := 17) rfl)) rfl ?_
  refine sk_iadd hx hb (okX1_end (26, .iadd, 1) (List.mem_of_getElem? (i := 18) rfl)) ?_
  obtain ⟨hr3, hM⟩ := hM
  refine sk_nm (fun v3_27 ev3_27 => ?_)
  have hM := hM v3_27 ev3_27
  have hr_v3_27 : rI v3_27 := by rw [ev3_27]; exact hr3
  refine lv_istore_n (lv' := [(3, .int (iI v3_27)), (2, .int (iI r_9)), (0, .ref (sk_ad G 149)), (1, .int (iI p1))]) hx hb (okX1_end (27, .istore_n 3, 1) (List.mem_of_getElem? (i := 19) rfl)) rfl hl (by decide) rfl (fun ls hl => ?_)
  refine lv_iload_n hx hb (okX1_end (28, .iload_n 2, 1) (List.mem_of_getElem? (i := 20) rfl)) rfl (lv_at hl 1 rfl) ?_
  refine lv_iconst (v := iI (-1)) hx hb (okX1_end (29, .iconst (-1), 1) (List.mem_of_getElem? (i := 21) rfl)) rfl ?_
  refine sk_icmp_eq (tgt := 53) hx hb hr_r_9 (by decide) (okX1_end (30, .if_icmp .eq 23, 3) (List.mem_of_getElem? (i := 22) rfl)) (by decide) (fun c30 => ?_) (fun c30 => ?_)
  · have hM := hM.1 c30
    refine lv_iload_n hx hb (okX1_end (53, .iload_n 1, 1) (List.mem_of_getElem? (i := 35) rfl)) rfl (lv_at hl 3 rfl) ?_
    exact sk_iret hx hb hr0 hlocks hK hw hr_p1 hM (okX1_end (54, .ireturn, 1) (List.mem_of_getElem? (i := 36) rfl))
  · have hM := hM.2 c30
    refine lv_aload_n hx hb (okX1_end (33, .aload_n 0, 1) (List.mem_of_getElem? (i := 23) rfl)) rfl (lv_at hl 2 rfl) ?_
    refine sk_getr (b := 150) S hK hw kdn_149 (kd_in kdn_149) (C := RX1) (T := TX1) (N := 7) rfl hI1 0 ⟨by decide, rfl, by decide, rfl⟩ rfl (k' := 0) rfl rfl (by decide +kernel) hL0 (okX1_end (34, .getfield 16, 3) (List.mem_of_getElem? (i := 24) rfl)) ?_
    refine lv_iload_n hx hb (okX1_end (37, .iload_n 2, 1) (List.mem_of_getElem? (i := 25) rfl)) rfl (lv_at hl 1 rfl) ?_
    refine lv_iconst (v := iI 5) hx hb (okX1_end (38, .iconst 5, 1) (List.mem_of_getElem? (i := 26) rfl)) rfl ?_
    refine sk_imul hx hb (okX1_end (39, .imul, 1) (List.mem_of_getElem? (i := 27) rfl)) ?_
    refine lv_iconst (v := iI 3) hx hb (okX1_end (40, .iconst 3, 1) (List.mem_of_getElem? (i := 28) rfl)) rfl ?_
    refine sk_iadd hx hb (okX1_end (41, .iadd, 1) (List.mem_of_getElem? (i := 29) rfl)) ?_
    obtain ⟨hr4, hM⟩ := hM
    refine sk_ci (sk_runV (a := 150) (C := RX7) (As := [.int (iI ((r_9 * 5) + 3))]) (rest := []) S (c_Row_at l G kdn_150 hr4 hM) sk_blind gX1_end_X7_at rfl hdX7_at ⟨⟨rfl, rfl⟩, Nat.le_of_ble_eq_true rfl, Nat.le_of_ble_eq_true rfl⟩ (sk_recv hK hw kdn_150 (kd_in kdn_150) (by decide) rfl) (sk_pre hK hw) rfl hl.1 rfl (Nat.le_of_ble_eq_true rfl) (okX1_end (42, .invokevirtual 42, 3) (List.mem_of_getElem? (i := 30) rfl)) ⟨Nat.zero_le _, Nat.zero_le _⟩) hw (fun r_42 I_42 H locs hr_r_42 hM hw => ?_)
    refine lv_iload_n hx hb (okX1_end (45, .iload_n 3, 1) (List.mem_of_getElem? (i := 31) rfl)) rfl (lv_at hl 0 rfl) ?_
    refine sk_icmp_ne (tgt := 53) hx hb hr_r_42 hr_v3_27 (okX1_end (46, .if_icmp .ne 7, 3) (List.mem_of_getElem? (i := 32) rfl)) (by decide) (fun c46 => ?_) (fun c46 => ?_)
    · have hM := hM.1 c46
      refine lv_iload_n hx hb (okX1_end (53, .iload_n 1, 1) (List.mem_of_getElem? (i := 35) rfl)) rfl (lv_at hl 3 rfl) ?_
      exact sk_iret hx hb hr0 hlocks hK hw hr_p1 hM (okX1_end (54, .ireturn, 1) (List.mem_of_getElem? (i := 36) rfl))
    · have hM := hM.2 c46
      refine lv_iload_n hx hb (okX1_end (49, .iload_n 2, 1) (List.mem_of_getElem? (i := 33) rfl)) rfl (lv_at hl 1 rfl) ?_
      refine lv_goto (tgt := 54) hx hb (okX1_end (50, .goto 4, 3) (List.mem_of_getElem? (i := 34) rfl)) (by decide) ?_
      exact sk_iret hx hb hr0 hlocks hK hw hr_r_9 hM (okX1_end (54, .ireturn, 1) (List.mem_of_getElem? (i := 36) rfl))
def rmX1_told : Room := { frames := 1, cells := 0, slots := 0, locals := 53 }
set_option maxHeartbeats 4000000 in
set_option maxRecDepth 100000 in
theorem c_Foreign_told (l : Launch) (G : sk_G) {p1 p2 : Int} (hr_p1 : rI p1) (hr_p2 : rI p2) {Q : Int → sk_S → Prop} {I : sk_S} (hM : M_Foreign_told p1 p2 Q I) : Met l yX1_told wsX1_told rmX1_told (va_Pc [.ref (sk_ad G 149), .int (iI p1), .int (iI p2)] (sk_U G 198 sk_t I)) (sk_Qi G 198 sk_t Q) 0 0 (sk_A G) := by
  refine Met.ofW (cc := cX1_told) (maxL := 3) (ret := (some .int)) (by decide) rfl ?_
  intro p e s m args below meth c s₁ B hml hv
  obtain ⟨rfl, hU, hK⟩ := hv
  have hx := B.exec
  have hb := B.bytes
  have hr0 := B.returns
  have hts := atoms_spec (ws := wsX1_told) B.pre
  have hown : s.vm.findClass RX1 = some m.cls := findClass_of_methodNamed B.named
  have hlocks := B.notSynchronized
  have S : CallFix p m c cX1_told 3 s ([.ref (sk_ad G 149), .int (iI p1), .int (iI p2)].toArray) wsX1_told RX1 := ⟨hx, hb, hml, hown, hts⟩
  have hL0 := hts (.fieldLink RX1 16 "SkyLights$Foreign" "cells" "LSkyLights$Row;") (by decide +kernel)
  have hI1 : ∀ w ∈ u_ws RX1 TX1 7, w ∈ wsX1_told := by decide +kernel
  have hw : sk_W G 198 sk_t I s s.heap [] := ⟨hU, va_S.rf⟩
  have hl := lv_entry ([.ref (sk_ad G 149), .int (iI p1), .int (iI p2)]) (n := 3) (Nat.le_of_ble_eq_true rfl)
  rw [lg_entry_eq]
  generalize (lg_sl ([.ref (sk_ad G 149), .int (iI p1), .int (iI p2)]) ++ List.replicate (3 - (lg_sl ([.ref (sk_ad G 149), .int (iI p1), .int (iI p2)])).length) Slot.unset).toArray = ls at hl ⊢
  have hl : lv_has ls 3 [(0, .ref (sk_ad G 149)), (1, .int (iI p1)), (2, .int (iI p2))] := hl
  suffices hgo : ∀ (H : Heap) (locs : List Loc), sk_W G 198 sk_t I s H locs → W p l e (headSpec wsX1_told rmX1_told).room s m ([.ref (sk_ad G 149), .int (iI p1), .int (iI p2)].toArray) below meth c H locs 0 0 (MQ below (sk_Qi G 198 sk_t Q) ([.ref (sk_ad G 149), .int (iI p1), .int (iI p2)].toArray) s 0 0 (sk_A G)) (F0 m 0 ls []) from hgo _ _ hw
  unfold M_Foreign_told at hM
  intro H locs hw
  refine lv_aload_n hx hb (okX1_told (0, .aload_n 0, 1) (List.mem_of_getElem? (i := 0) rfl)) rfl (lv_at hl 0 rfl) ?_
  refine sk_getr (b := 150) S hK hw kdn_149 (kd_in kdn_149) (C := RX1) (T := TX1) (N := 7) rfl hI1 0 ⟨by decide, rfl, by decide, rfl⟩ rfl (k' := 0) rfl rfl (by decide +kernel) hL0 (okX1_told (1, .getfield 16, 3) (List.mem_of_getElem? (i := 1) rfl)) ?_
  refine lv_iload_n hx hb (okX1_told (4, .iload_n 1, 1) (List.mem_of_getElem? (i := 2) rfl)) rfl (lv_at hl 1 rfl) ?_
  refine lv_iconst (v := iI 5) hx hb (okX1_told (5, .iconst 5, 1) (List.mem_of_getElem? (i := 3) rfl)) rfl ?_
  refine sk_imul hx hb (okX1_told (6, .imul, 1) (List.mem_of_getElem? (i := 4) rfl)) ?_
  refine lv_iload_n hx hb (okX1_told (7, .iload_n 2, 1) (List.mem_of_getElem? (i := 5) rfl)) rfl (lv_at hl 2 rfl) ?_
  refine sk_iadd hx hb (okX1_told (8, .iadd, 1) (List.mem_of_getElem? (i := 6) rfl)) ?_
  obtain ⟨hr1, hM⟩ := hM
  refine sk_ci (sk_runV (a := 150) (C := RX7) (As := [.int (iI ((p1 * 5) + p2))]) (rest := []) S (c_Row_at l G kdn_150 hr1 hM) sk_blind gX1_told_X7_at rfl hdX7_at ⟨⟨rfl, rfl⟩, Nat.le_of_ble_eq_true rfl, Nat.le_of_ble_eq_true rfl⟩ (sk_recv hK hw kdn_150 (kd_in kdn_150) (by decide) rfl) (sk_pre hK hw) rfl hl.1 rfl (Nat.le_of_ble_eq_true rfl) (okX1_told (9, .invokevirtual 42, 3) (List.mem_of_getElem? (i := 7) rfl)) ⟨Nat.zero_le _, Nat.zero_le _⟩) hw (fun r_9 I_9 H locs hr_r_9 hM hw => ?_)
  exact sk_iret hx hb hr0 hlocks hK hw hr_r_9 hM (okX1_told (12, .ireturn, 1) (List.mem_of_getElem? (i := 8) rfl))
def rmX1_areNear : Room := { frames := 2, cells := 0, slots := 0, locals := 108 }
set_option maxHeartbeats 4000000 in
set_option maxRecDepth 100000 in
theorem c_Foreign_areNear (l : Launch) (G : sk_G) {p1 p2 p3 : Int} (hr_p1 : rI p1) (hr_p2 : rI p2) (hr_p3 : rI p3) {Q : Int → sk_S → Prop} {I : sk_S} (hM : M_Foreign_areNear p1 p2 p3 Q I) : Met l yX1_areNear wsX1_areNear rmX1_areNear (va_Pc [.ref (sk_ad G 149), .int (iI p1), .int (iI p2), .int (iI p3)] (sk_U G 198 sk_t I)) (sk_Qz G 198 sk_t Q) 0 0 (sk_A G) := by
  refine Met.ofW (cc := cX1_areNear) (maxL := 7) (ret := (some .boolean)) (by decide) rfl ?_
  intro p e s m args below meth c s₁ B hml hv
  obtain ⟨rfl, hU, hK⟩ := hv
  have hx := B.exec
  have hb := B.bytes
  have hr0 := B.returns
  have hts := atoms_spec (ws := wsX1_areNear) B.pre
  have hown : s.vm.findClass RX1 = some m.cls := findClass_of_methodNamed B.named
  have hlocks := B.notSynchronized
  have S : CallFix p m c cX1_areNear 7 s ([.ref (sk_ad G 149), .int (iI p1), .int (iI p2), .int (iI p3)].toArray) wsX1_areNear RX1 := ⟨hx, hb, hml, hown, hts⟩
  have hw : sk_W G 198 sk_t I s s.heap [] := ⟨hU, va_S.rf⟩
  have hl := lv_entry ([.ref (sk_ad G 149), .int (iI p1), .int (iI p2), .int (iI p3)]) (n := 7) (Nat.le_of_ble_eq_true rfl)
  rw [lg_entry_eq]
  generalize (lg_sl ([.ref (sk_ad G 149), .int (iI p1), .int (iI p2), .int (iI p3)]) ++ List.replicate (7 - (lg_sl ([.ref (sk_ad G 149), .int (iI p1), .int (iI p2), .int (iI p3)])).length) Slot.unset).toArray = ls at hl ⊢
  have hl : lv_has ls 7 [(0, .ref (sk_ad G 149)), (1, .int (iI p1)), (2, .int (iI p2)), (3, .int (iI p3))] := hl
  suffices hgo : ∀ (H : Heap) (locs : List Loc), sk_W G 198 sk_t I s H locs → W p l e (headSpec wsX1_areNear rmX1_areNear).room s m ([.ref (sk_ad G 149), .int (iI p1), .int (iI p2), .int (iI p3)].toArray) below meth c H locs 0 0 (MQ below (sk_Qz G 198 sk_t Q) ([.ref (sk_ad G 149), .int (iI p1), .int (iI p2), .int (iI p3)].toArray) s 0 0 (sk_A G)) (F0 m 0 ls []) from hgo _ _ hw
  have hJ_55 : ∀ (v1 v2 v3 v5 s0 : Int) (I : sk_S), rI v1 → rI v2 → rI v3 → rI v5 → rI s0 → J_Foreign_areNear_55 v1 v2 v3 v5 s0 Q I → ∀ (H : Heap) (locs : List Loc) (ls : Array Slot), sk_W G 198 sk_t I s H locs → lv_has ls 7 [(0, .ref (sk_ad G 149)), (1, .int (iI v1)), (2, .int (iI v2)), (3, .int (iI v3)), (5, .int (iI v5))] → W p l e (headSpec wsX1_areNear rmX1_areNear).room s m ([.ref (sk_ad G 149), .int (iI p1), .int (iI p2), .int (iI p3)].toArray) below meth c H locs 0 0 (MQ below (sk_Qz G 198 sk_t Q) ([.ref (sk_ad G 149), .int (iI p1), .int (iI p2), .int (iI p3)].toArray) s 0 0 (sk_A G)) (F0 m 55 ls [.int (iI s0)]) := by
    intro v1 v2 v3 v5 s0 I hr_v1 hr_v2 hr_v3 hr_v5 hr_s0 hM H locs ls hw hl
    unfold J_Foreign_areNear_55 at hM
    refine lv_istore (lv' := [(6, .int (iI s0)), (0, .ref (sk_ad G 149)), (1, .int (iI v1)), (2, .int (iI v2)), (3, .int (iI v3)), (5, .int (iI v5))]) hx hb (okX1_areNear (55, .istore 6, 2) (List.mem_of_getElem? (i := 29) rfl)) hl (by decide) rfl (fun ls hl => ?_)
    refine lv_aload_n hx hb (okX1_areNear (57, .aload_n 0, 1) (List.mem_of_getElem? (i := 30) rfl)) rfl (lv_at hl 1 rfl) ?_
    refine lv_iload_n hx hb (okX1_areNear (58, .iload_n 1, 1) (List.mem_of_getElem? (i := 31) rfl)) rfl (lv_at hl 2 rfl) ?_
    refine lv_iconst (v := iI 0) hx hb (okX1_areNear (59, .iconst 0, 1) (List.mem_of_getElem? (i := 32) rfl)) rfl ?_
    refine sk_ci (sk_runV (a := 149) (C := RX1) (As := [.int (iI v1), .int (iI 0)]) (rest := []) S (c_Foreign_told l G hr_v1 (by decide) hM) sk_blind gX1_areNear_X1_told rfl hdX1_told ⟨⟨rfl, rfl⟩, Nat.le_of_ble_eq_true rfl, Nat.le_of_ble_eq_true rfl⟩ (sk_recv hK hw kdn_149 (kd_in kdn_149) (by decide) rfl) (sk_pre hK hw) rfl hl.1 rfl (Nat.le_of_ble_eq_true rfl) (okX1_areNear (60, .invokevirtual 46, 3) (List.mem_of_getElem? (i := 33) rfl)) ⟨Nat.zero_le _, Nat.zero_le _⟩) hw (fun r_60 I_60 H locs hr_r_60 hM hw => ?_)
    refine lv_aload_n hx hb (okX1_areNear (63, .aload_n 0, 1) (List.mem_of_getElem? (i := 34) rfl)) rfl (lv_at hl 1 rfl) ?_
    refine lv_iload_n hx hb (okX1_areNear (64, .iload_n 2, 1) (List.mem_of_getElem? (i := 35) rfl)) rfl (lv_at hl 3 rfl) ?_
    refine lv_iconst (v := iI 0) hx hb (okX1_areNear (65, .iconst 0, 1) (List.mem_of_getElem? (i := 36) rfl)) rfl ?_
    refine sk_ci (sk_runV (a := 149) (C := RX1) (As := [.int (iI v2), .int (iI 0)]) (rest := [.int (iI r_60)]) S (c_Foreign_told l G hr_v2 (by decide) hM) sk_blind gX1_areNear_X1_told rfl hdX1_told ⟨⟨rfl, rfl⟩, Nat.le_of_ble_eq_true rfl, Nat.le_of_ble_eq_true rfl⟩ (sk_recv hK hw kdn_149 (kd_in kdn_149) (by decide) rfl) (sk_pre hK hw) rfl hl.1 rfl (Nat.le_of_ble_eq_true rfl) (okX1_areNear (66, .invokevirtual 46, 3) (List.mem_of_getElem? (i := 37) rfl)) ⟨Nat.zero_le _, Nat.zero_le _⟩) hw (fun r_66 I_66 H locs hr_r_66 hM hw => ?_)
    refine sk_isub hx hb (okX1_areNear (69, .isub, 1) (List.mem_of_getElem? (i := 38) rfl)) ?_
    obtain ⟨hr1, hM⟩ := hM
    refine sk_i2l hx hb hr1 (okX1_areNear (70, .i2l, 1) (List.mem_of_getElem? (i := 39) rfl)) ?_
    refine lv_aload_n hx hb (okX1_areNear (71, .aload_n 0, 1) (List.mem_of_getElem? (i := 40) rfl)) rfl (lv_at hl 1 rfl) ?_
    refine lv_iload_n hx hb (okX1_areNear (72, .iload_n 1, 1) (List.mem_of_getElem? (i := 41) rfl)) rfl (lv_at hl 2 rfl) ?_
    refine lv_iconst (v := iI 1) hx hb (okX1_areNear (73, .iconst 1, 1) (List.mem_of_getElem? (i := 42) rfl)) rfl ?_
    refine sk_ci (sk_runV (a := 149) (C := RX1) (As := [.int (iI v1), .int (iI 1)]) (rest := [.long (lI (r_60 - r_66))]) S (c_Foreign_told l G hr_v1 (by decide) hM) sk_blind gX1_areNear_X1_told rfl hdX1_told ⟨⟨rfl, rfl⟩, Nat.le_of_ble_eq_true rfl, Nat.le_of_ble_eq_true rfl⟩ (sk_recv hK hw kdn_149 (kd_in kdn_149) (by decide) rfl) (sk_pre hK hw) rfl hl.1 rfl (Nat.le_of_ble_eq_true rfl) (okX1_areNear (74, .invokevirtual 46, 3) (List.mem_of_getElem? (i := 43) rfl)) ⟨Nat.zero_le _, Nat.zero_le _⟩) hw (fun r_74 I_74 H locs hr_r_74 hM hw => ?_)
    refine lv_aload_n hx hb (okX1_areNear (77, .aload_n 0, 1) (List.mem_of_getElem? (i := 44) rfl)) rfl (lv_at hl 1 rfl) ?_
    refine lv_iload_n hx hb (okX1_areNear (78, .iload_n 2, 1) (List.mem_of_getElem? (i := 45) rfl)) rfl (lv_at hl 3 rfl) ?_
    refine lv_iconst (v := iI 1) hx hb (okX1_areNear (79, .iconst 1, 1) (List.mem_of_getElem? (i := 46) rfl)) rfl ?_
    refine sk_ci (sk_runV (a := 149) (C := RX1) (As := [.int (iI v2), .int (iI 1)]) (rest := [.int (iI r_74), .long (lI (r_60 - r_66))]) S (c_Foreign_told l G hr_v2 (by decide) hM) sk_blind gX1_areNear_X1_told rfl hdX1_told ⟨⟨rfl, rfl⟩, Nat.le_of_ble_eq_true rfl, Nat.le_of_ble_eq_true rfl⟩ (sk_recv hK hw kdn_149 (kd_in kdn_149) (by decide) rfl) (sk_pre hK hw) rfl hl.1 rfl (Nat.le_of_ble_eq_true rfl) (okX1_areNear (80, .invokevirtual 46, 3) (List.mem_of_getElem? (i := 47) rfl)) ⟨Nat.zero_le _, Nat.zero_le _⟩) hw (fun r_80 I_80 H locs hr_r_80 hM hw => ?_)
    refine sk_isub hx hb (okX1_areNear (83, .isub, 1) (List.mem_of_getElem? (i := 48) rfl)) ?_
    obtain ⟨hr2, hM⟩ := hM
    refine sk_i2l hx hb hr2 (okX1_areNear (84, .i2l, 1) (List.mem_of_getElem? (i := 49) rfl)) ?_
    refine lv_aload_n hx hb (okX1_areNear (85, .aload_n 0, 1) (List.mem_of_getElem? (i := 50) rfl)) rfl (lv_at hl 1 rfl) ?_
    refine lv_iload_n hx hb (okX1_areNear (86, .iload_n 1, 1) (List.mem_of_getElem? (i := 51) rfl)) rfl (lv_at hl 2 rfl) ?_
    refine lv_iconst (v := iI 2) hx hb (okX1_areNear (87, .iconst 2, 1) (List.mem_of_getElem? (i := 52) rfl)) rfl ?_
    refine sk_ci (sk_runV (a := 149) (C := RX1) (As := [.int (iI v1), .int (iI 2)]) (rest := [.long (lI (r_74 - r_80)), .long (lI (r_60 - r_66))]) S (c_Foreign_told l G hr_v1 (by decide) hM) sk_blind gX1_areNear_X1_told rfl hdX1_told ⟨⟨rfl, rfl⟩, Nat.le_of_ble_eq_true rfl, Nat.le_of_ble_eq_true rfl⟩ (sk_recv hK hw kdn_149 (kd_in kdn_149) (by decide) rfl) (sk_pre hK hw) rfl hl.1 rfl (Nat.le_of_ble_eq_true rfl) (okX1_areNear (88, .invokevirtual 46, 3) (List.mem_of_getElem? (i := 53) rfl)) ⟨Nat.zero_le _, Nat.zero_le _⟩) hw (fun r_88 I_88 H locs hr_r_88 hM hw => ?_)
    refine lv_aload_n hx hb (okX1_areNear (91, .aload_n 0, 1) (List.mem_of_getElem? (i := 54) rfl)) rfl (lv_at hl 1 rfl) ?_
    refine lv_iload_n hx hb (okX1_areNear (92, .iload_n 2, 1) (List.mem_of_getElem? (i := 55) rfl)) rfl (lv_at hl 3 rfl) ?_
    refine lv_iconst (v := iI 2) hx hb (okX1_areNear (93, .iconst 2, 1) (List.mem_of_getElem? (i := 56) rfl)) rfl ?_
    refine sk_ci (sk_runV (a := 149) (C := RX1) (As := [.int (iI v2), .int (iI 2)]) (rest := [.int (iI r_88), .long (lI (r_74 - r_80)), .long (lI (r_60 - r_66))]) S (c_Foreign_told l G hr_v2 (by decide) hM) sk_blind gX1_areNear_X1_told rfl hdX1_told ⟨⟨rfl, rfl⟩, Nat.le_of_ble_eq_true rfl, Nat.le_of_ble_eq_true rfl⟩ (sk_recv hK hw kdn_149 (kd_in kdn_149) (by decide) rfl) (sk_pre hK hw) rfl hl.1 rfl (Nat.le_of_ble_eq_true rfl) (okX1_areNear (94, .invokevirtual 46, 3) (List.mem_of_getElem? (i := 57) rfl)) ⟨Nat.zero_le _, Nat.zero_le _⟩) hw (fun r_94 I_94 H locs hr_r_94 hM hw => ?_)
    refine sk_isub hx hb (okX1_areNear (97, .isub, 1) (List.mem_of_getElem? (i := 58) rfl)) ?_
    obtain ⟨hr3, hM⟩ := hM
    refine sk_i2l hx hb hr3 (okX1_areNear (98, .i2l, 1) (List.mem_of_getElem? (i := 59) rfl)) ?_
    refine lv_aload_n hx hb (okX1_areNear (99, .aload_n 0, 1) (List.mem_of_getElem? (i := 60) rfl)) rfl (lv_at hl 1 rfl) ?_
    refine lv_iload hx hb (okX1_areNear (100, .iload 5, 2) (List.mem_of_getElem? (i := 61) rfl)) (lv_at hl 5 rfl) ?_
    refine lv_iconst (v := iI 0) hx hb (okX1_areNear (102, .iconst 0, 1) (List.mem_of_getElem? (i := 62) rfl)) rfl ?_
    refine sk_ci (sk_runV (a := 149) (C := RX1) (As := [.int (iI v5), .int (iI 0)]) (rest := [.long (lI (r_88 - r_94)), .long (lI (r_74 - r_80)), .long (lI (r_60 - r_66))]) S (c_Foreign_told l G hr_v5 (by decide) hM) sk_blind gX1_areNear_X1_told rfl hdX1_told ⟨⟨rfl, rfl⟩, Nat.le_of_ble_eq_true rfl, Nat.le_of_ble_eq_true rfl⟩ (sk_recv hK hw kdn_149 (kd_in kdn_149) (by decide) rfl) (sk_pre hK hw) rfl hl.1 rfl (Nat.le_of_ble_eq_true rfl) (okX1_areNear (103, .invokevirtual 46, 3) (List.mem_of_getElem? (i := 63) rfl)) ⟨Nat.zero_le _, Nat.zero_le _⟩) hw (fun r_103 I_103 H locs hr_r_103 hM hw => ?_)
    refine lv_aload_n hx hb (okX1_areNear (106, .aload_n 0, 1) (List.mem_of_getElem? (i := 64) rfl)) rfl (lv_at hl 1 rfl) ?_
    refine lv_iload hx hb (okX1_areNear (107, .iload 6, 2) (List.mem_of_getElem? (i := 65) rfl)) (lv_at hl 0 rfl) ?_
    refine lv_iconst (v := iI 0) hx hb (okX1_areNear (109, .iconst 0, 1) (List.mem_of_getElem? (i := 66) rfl)) rfl ?_
    refine sk_ci (sk_runV (a := 149) (C := RX1) (As := [.int (iI s0), .int (iI 0)]) (rest := [.int (iI r_103), .long (lI (r_88 - r_94)), .long (lI (r_74 - r_80)), .long (lI (r_60 - r_66))]) S (c_Foreign_told l G hr_s0 (by decide) hM) sk_blind gX1_areNear_X1_told rfl hdX1_told ⟨⟨rfl, rfl⟩, Nat.le_of_ble_eq_true rfl, Nat.le_of_ble_eq_true rfl⟩ (sk_recv hK hw kdn_149 (kd_in kdn_149) (by decide) rfl) (sk_pre hK hw) rfl hl.1 rfl (Nat.le_of_ble_eq_true rfl) (okX1_areNear (110, .invokevirtual 46, 3) (List.mem_of_getElem? (i := 67) rfl)) ⟨Nat.zero_le _, Nat.zero_le _⟩) hw (fun r_110 I_110 H locs hr_r_110 hM hw => ?_)
    refine sk_isub hx hb (okX1_areNear (113, .isub, 1) (List.mem_of_getElem? (i := 68) rfl)) ?_
    obtain ⟨hr4, hM⟩ := hM
    refine sk_i2l hx hb hr4 (okX1_areNear (114, .i2l, 1) (List.mem_of_getElem? (i := 69) rfl)) ?_
    refine lv_aload_n hx hb (okX1_areNear (115, .aload_n 0, 1) (List.mem_of_getElem? (i := 70) rfl)) rfl (lv_at hl 1 rfl) ?_
    refine lv_iload hx hb (okX1_areNear (116, .iload 5, 2) (List.mem_of_getElem? (i := 71) rfl)) (lv_at hl 5 rfl) ?_
    refine lv_iconst (v := iI 1) hx hb (okX1_areNear (118, .iconst 1, 1) (List.mem_of_getElem? (i := 72) rfl)) rfl ?_
    refine sk_ci (sk_runV (a := 149) (C := RX1) (As := [.int (iI v5), .int (iI 1)]) (rest := [.long (lI (r_103 - r_110)), .long (lI (r_88 - r_94)), .long (lI (r_74 - r_80)), .long (lI (r_60 - r_66))]) S (c_Foreign_told l G hr_v5 (by decide) hM) sk_blind gX1_areNear_X1_told rfl hdX1_told ⟨⟨rfl, rfl⟩, Nat.le_of_ble_eq_true rfl, Nat.le_of_ble_eq_true rfl⟩ (sk_recv hK hw kdn_149 (kd_in kdn_149) (by decide) rfl) (sk_pre hK hw) rfl hl.1 rfl (Nat.le_of_ble_eq_true rfl) (okX1_areNear (119, .invokevirtual 46, 3) (List.mem_of_getElem? (i := 73) rfl)) ⟨Nat.zero_le _, Nat.zero_le _⟩) hw (fun r_119 I_119 H locs hr_r_119 hM hw => ?_)
    refine lv_aload_n hx hb (okX1_areNear (122, .aload_n 0, 1) (List.mem_of_getElem? (i := 74) rfl)) rfl (lv_at hl 1 rfl) ?_
    refine lv_iload hx hb (okX1_areNear (123, .iload 6, 2) (List.mem_of_getElem? (i := 75) rfl)) (lv_at hl 0 rfl) ?_
    refine lv_iconst (v := iI 1) hx hb (okX1_areNear (125, .iconst 1, 1) (List.mem_of_getElem? (i := 76) rfl)) rfl ?_
    refine sk_ci (sk_runV (a := 149) (C := RX1) (As := [.int (iI s0), .int (iI 1)]) (rest := [.int (iI r_119), .long (lI (r_103 - r_110)), .long (lI (r_88 - r_94)), .long (lI (r_74 - r_80)), .long (lI (r_60 - r_66))]) S (c_Foreign_told l G hr_s0 (by decide) hM) sk_blind gX1_areNear_X1_told rfl hdX1_told ⟨⟨rfl, rfl⟩, Nat.le_of_ble_eq_true rfl, Nat.le_of_ble_eq_true rfl⟩ (sk_recv hK hw kdn_149 (kd_in kdn_149) (by decide) rfl) (sk_pre hK hw) rfl hl.1 rfl (Nat.le_of_ble_eq_true rfl) (okX1_areNear (126, .invokevirtual 46, 3) (List.mem_of_getElem? (i := 77) rfl)) ⟨Nat.zero_le _, Nat.zero_le _⟩) hw (fun r_126 I_126 H locs hr_r_126 hM hw => ?_)
    refine sk_isub hx hb (okX1_areNear (129, .isub, 1) (List.mem_of_getElem? (i := 78) rfl)) ?_
    obtain ⟨hr5, hM⟩ := hM
    refine sk_i2l hx hb hr5 (okX1_areNear (130, .i2l, 1) (List.mem_of_getElem? (i := 79) rfl)) ?_
    refine lv_aload_n hx hb (okX1_areNear (131, .aload_n 0, 1) (List.mem_of_getElem? (i := 80) rfl)) rfl (lv_at hl 1 rfl) ?_
    refine lv_iload hx hb (okX1_areNear (132, .iload 5, 2) (List.mem_of_getElem? (i := 81) rfl)) (lv_at hl 5 rfl) ?_
    refine lv_iconst (v := iI 2) hx hb (okX1_areNear (134, .iconst 2, 1) (List.mem_of_getElem? (i := 82) rfl)) rfl ?_
    refine sk_ci (sk_runV (a := 149) (C := RX1) (As := [.int (iI v5), .int (iI 2)]) (rest := [.long (lI (r_119 - r_126)), .long (lI (r_103 - r_110)), .long (lI (r_88 - r_94)), .long (lI (r_74 - r_80)), .long (lI (r_60 - r_66))]) S (c_Foreign_told l G hr_v5 (by decide) hM) sk_blind gX1_areNear_X1_told rfl hdX1_told ⟨⟨rfl, rfl⟩, Nat.le_of_ble_eq_true rfl, Nat.le_of_ble_eq_true rfl⟩ (sk_recv hK hw kdn_149 (kd_in kdn_149) (by decide) rfl) (sk_pre hK hw) rfl hl.1 rfl (Nat.le_of_ble_eq_true rfl) (okX1_areNear (135, .invokevirtual 46, 3) (List.mem_of_getElem? (i := 83) rfl)) ⟨Nat.zero_le _, Nat.zero_le _⟩) hw (fun r_135 I_135 H locs hr_r_135 hM hw => ?_)
    refine lv_aload_n hx hb (okX1_areNear (138, .aload_n 0, 1) (List.mem_of_getElem? (i := 84) rfl)) rfl (lv_at hl 1 rfl) ?_
    refine lv_iload hx hb (okX1_areNear (139, .iload 6, 2) (List.mem_of_getElem? (i := 85) rfl)) (lv_at hl 0 rfl) ?_
    refine lv_iconst (v := iI 2) hx hb (okX1_areNear (141, .iconst 2, 1) (List.mem_of_getElem? (i := 86) rfl)) rfl ?_
    refine sk_ci (sk_runV (a := 149) (C := RX1) (As := [.int (iI s0), .int (iI 2)]) (rest := [.int (iI r_135), .long (lI (r_119 - r_126)), .long (lI (r_103 - r_110)), .long (lI (r_88 - r_94)), .long (lI (r_74 - r_80)), .long (lI (r_60 - r_66))]) S (c_Foreign_told l G hr_s0 (by decide) hM) sk_blind gX1_areNear_X1_told rfl hdX1_told ⟨⟨rfl, rfl⟩, Nat.le_of_ble_eq_true rfl, Nat.le_of_ble_eq_true rfl⟩ (sk_recv hK hw kdn_149 (kd_in kdn_149) (by decide) rfl) (sk_pre hK hw) rfl hl.1 rfl (Nat.le_of_ble_eq_true rfl) (okX1_areNear (142, .invokevirtual 46, 3) (List.mem_of_getElem? (i := 87) rfl)) ⟨Nat.zero_le _, Nat.zero_le _⟩) hw (fun r_142 I_142 H locs hr_r_142 hM hw => ?_)
    refine sk_isub hx hb (okX1_areNear (145, .isub, 1) (List.mem_of_getElem? (i := 88) rfl)) ?_
    obtain ⟨hr6, hM⟩ := hM
    refine sk_i2l hx hb hr6 (okX1_areNear (146, .i2l, 1) (List.mem_of_getElem? (i := 89) rfl)) ?_
    refine lv_iload_n hx hb (okX1_areNear (147, .iload_n 3, 1) (List.mem_of_getElem? (i := 90) rfl)) rfl (lv_at hl 4 rfl) ?_
    refine sk_i2l hx hb hr_v3 (okX1_areNear (148, .i2l, 1) (List.mem_of_getElem? (i := 91) rfl)) ?_
    refine sk_ci (sk_runS (As := [.long (lI (r_60 - r_66)), .long (lI (r_74 - r_80)), .long (lI (r_88 - r_94)), .long (lI (r_103 - r_110)), .long (lI (r_119 - r_126)), .long (lI (r_135 - r_142)), .long (lI v3)]) (rest := []) S (c_Air_isNearer l G ⟨Int.le_trans (by decide) (hr1).1, Int.lt_trans (hr1).2 (by decide)⟩ ⟨Int.le_trans (by decide) (hr2).1, Int.lt_trans (hr2).2 (by decide)⟩ ⟨Int.le_trans (by decide) (hr3).1, Int.lt_trans (hr3).2 (by decide)⟩ ⟨Int.le_trans (by decide) (hr4).1, Int.lt_trans (hr4).2 (by decide)⟩ ⟨Int.le_trans (by decide) (hr5).1, Int.lt_trans (hr5).2 (by decide)⟩ ⟨Int.le_trans (by decide) (hr6).1, Int.lt_trans (hr6).2 (by decide)⟩ ⟨Int.le_trans (by decide) (hr_v3).1, Int.lt_trans (hr_v3).2 (by decide)⟩ hM) sk_blind gX1_areNear_X0_isNearer rfl hdX0_isNearer ⟨⟨rfl, rfl⟩, Nat.le_of_ble_eq_true rfl, Nat.le_of_ble_eq_true rfl⟩ (sk_pre hK hw) rfl hl.1 rfl (Nat.le_of_ble_eq_true rfl) (okX1_areNear (149, .invokestatic 96, 3) (List.mem_of_getElem? (i := 92) rfl)) ⟨Nat.zero_le _, Nat.zero_le _⟩) hw (fun r_149 I_149 H locs hr_r_149 hM hw => ?_)
    obtain ⟨hb_r_149, hM⟩ := hM
    exact sk_zret hx hb hr0 hlocks hK hw hb_r_149 hM (okX1_areNear (152, .ireturn, 1) (List.mem_of_getElem? (i := 93) rfl))
  have hJ_39 : ∀ (v1 v2 v3 v4 s0 : Int) (I : sk_S), rI v1 → rI v2 → rI v3 → rI v4 → rI s0 → J_Foreign_areNear_39 v1 v2 v3 v4 s0 Q I → ∀ (H : Heap) (locs : List Loc) (ls : Array Slot), sk_W G 198 sk_t I s H locs → lv_has ls 7 [(0, .ref (sk_ad G 149)), (1, .int (iI v1)), (2, .int (iI v2)), (3, .int (iI v3)), (4, .int (iI v4))] → W p l e (headSpec wsX1_areNear rmX1_areNear).room s m ([.ref (sk_ad G 149), .int (iI p1), .int (iI p2), .int (iI p3)].toArray) below meth c H locs 0 0 (MQ below (sk_Qz G 198 sk_t Q) ([.ref (sk_ad G 149), .int (iI p1), .int (iI p2), .int (iI p3)].toArray) s 0 0 (sk_A G)) (F0 m 39 ls [.int (iI s0)]) := by
    intro v1 v2 v3 v4 s0 I hr_v1 hr_v2 hr_v3 hr_v4 hr_s0 hM H locs ls hw hl
    unfold J_Foreign_areNear_39 at hM
    refine lv_istore (lv' := [(5, .int (iI s0)), (0, .ref (sk_ad G 149)), (1, .int (iI v1)), (2, .int (iI v2)), (3, .int (iI v3)), (4, .int (iI v4))]) hx hb (okX1_areNear (39, .istore 5, 2) (List.mem_of_getElem? (i := 21) rfl)) hl (by decide) rfl (fun ls hl => ?_)
    refine lv_iload hx hb (okX1_areNear (41, .iload 4, 2) (List.mem_of_getElem? (i := 22) rfl)) (lv_at hl 5 rfl) ?_
    refine sk_if_eq (tgt := 54) hx hb hr_v4 (okX1_areNear (43, .ifCond .eq 11, 3) (List.mem_of_getElem? (i := 23) rfl)) (by decide) (fun c43 => ?_) (fun c43 => ?_)
    · have hM := hM.1 c43
      refine lv_iload_n hx hb (okX1_areNear (54, .iload_n 2, 1) (List.mem_of_getElem? (i := 28) rfl)) rfl (lv_at hl 3 rfl) ?_
      exact hJ_55 v1 v2 v3 s0 v2 I hr_v1 hr_v2 hr_v3 hr_s0 hr_v2 hM H locs ls hw (lv_sub hl [1, 2, 3, 4, 0] rfl)
    · have hM := hM.2 c43
      refine lv_aload_n hx hb (okX1_areNear (46, .aload_n 0, 1) (List.mem_of_getElem? (i := 24) rfl)) rfl (lv_at hl 1 rfl) ?_
      refine lv_iload_n hx hb (okX1_areNear (47, .iload_n 2, 1) (List.mem_of_getElem? (i := 25) rfl)) rfl (lv_at hl 3 rfl) ?_
      refine sk_ci (sk_runV (a := 149) (C := RX1) (As := [.int (iI v2)]) (rest := []) S (c_Foreign_end l G hr_v2 hM) sk_blind gX1_areNear_X1_end rfl hdX1_end ⟨⟨rfl, rfl⟩, Nat.le_of_ble_eq_true rfl, Nat.le_of_ble_eq_true rfl⟩ (sk_recv hK hw kdn_149 (kd_in kdn_149) (by decide) rfl) (sk_pre hK hw) rfl hl.1 rfl (Nat.le_of_ble_eq_true rfl) (okX1_areNear (48, .invokevirtual 90, 3) (List.mem_of_getElem? (i := 26) rfl)) ⟨Nat.zero_le _, Nat.zero_le _⟩) hw (fun r_48 I_48 H locs hr_r_48 hM hw => ?_)
      refine lv_goto (tgt := 55) hx hb (okX1_areNear (51, .goto 4, 3) (List.mem_of_getElem? (i := 27) rfl)) (by decide) ?_
      exact hJ_55 v1 v2 v3 s0 r_48 I_48 hr_v1 hr_v2 hr_v3 hr_s0 hr_r_48 hM H locs ls hw (lv_sub hl [1, 2, 3, 4, 0] rfl)
  have hJ_23 : ∀ (v1 v2 v3 s0 : Int) (I : sk_S), rI v1 → rI v2 → rI v3 → rI s0 → J_Foreign_areNear_23 v1 v2 v3 s0 Q I → ∀ (H : Heap) (locs : List Loc) (ls : Array Slot), sk_W G 198 sk_t I s H locs → lv_has ls 7 [(0, .ref (sk_ad G 149)), (1, .int (iI v1)), (2, .int (iI v2)), (3, .int (iI v3))] → W p l e (headSpec wsX1_areNear rmX1_areNear).room s m ([.ref (sk_ad G 149), .int (iI p1), .int (iI p2), .int (iI p3)].toArray) below meth c H locs 0 0 (MQ below (sk_Qz G 198 sk_t Q) ([.ref (sk_ad G 149), .int (iI p1), .int (iI p2), .int (iI p3)].toArray) s 0 0 (sk_A G)) (F0 m 23 ls [.int (iI s0)]) := by
    intro v1 v2 v3 s0 I hr_v1 hr_v2 hr_v3 hr_s0 hM H locs ls hw hl
    unfold J_Foreign_areNear_23 at hM
    refine lv_istore (lv' := [(4, .int (iI s0)), (0, .ref (sk_ad G 149)), (1, .int (iI v1)), (2, .int (iI v2)), (3, .int (iI v3))]) hx hb (okX1_areNear (23, .istore 4, 2) (List.mem_of_getElem? (i := 13) rfl)) hl (by decide) rfl (fun ls hl => ?_)
    refine lv_iload hx hb (okX1_areNear (25, .iload 4, 2) (List.mem_of_getElem? (i := 14) rfl)) (lv_at hl 0 rfl) ?_
    refine sk_if_eq (tgt := 38) hx hb hr_s0 (okX1_areNear (27, .ifCond .eq 11, 3) (List.mem_of_getElem? (i := 15) rfl)) (by decide) (fun c27 => ?_) (fun c27 => ?_)
    · have hM := hM.1 c27
      refine lv_iload_n hx hb (okX1_areNear (38, .iload_n 1, 1) (List.mem_of_getElem? (i := 20) rfl)) rfl (lv_at hl 2 rfl) ?_
      exact hJ_39 v1 v2 v3 s0 v1 I hr_v1 hr_v2 hr_v3 hr_s0 hr_v1 hM H locs ls hw (lv_sub hl [1, 2, 3, 4, 0] rfl)
    · have hM := hM.2 c27
      refine lv_aload_n hx hb (okX1_areNear (30, .aload_n 0, 1) (List.mem_of_getElem? (i := 16) rfl)) rfl (lv_at hl 1 rfl) ?_
      refine lv_iload_n hx hb (okX1_areNear (31, .iload_n 1, 1) (List.mem_of_getElem? (i := 17) rfl)) rfl (lv_at hl 2 rfl) ?_
      refine sk_ci (sk_runV (a := 149) (C := RX1) (As := [.int (iI v1)]) (rest := []) S (c_Foreign_end l G hr_v1 hM) sk_blind gX1_areNear_X1_end rfl hdX1_end ⟨⟨rfl, rfl⟩, Nat.le_of_ble_eq_true rfl, Nat.le_of_ble_eq_true rfl⟩ (sk_recv hK hw kdn_149 (kd_in kdn_149) (by decide) rfl) (sk_pre hK hw) rfl hl.1 rfl (Nat.le_of_ble_eq_true rfl) (okX1_areNear (32, .invokevirtual 90, 3) (List.mem_of_getElem? (i := 18) rfl)) ⟨Nat.zero_le _, Nat.zero_le _⟩) hw (fun r_32 I_32 H locs hr_r_32 hM hw => ?_)
      refine lv_goto (tgt := 39) hx hb (okX1_areNear (35, .goto 4, 3) (List.mem_of_getElem? (i := 19) rfl)) (by decide) ?_
      exact hJ_39 v1 v2 v3 s0 r_32 I_32 hr_v1 hr_v2 hr_v3 hr_s0 hr_r_32 hM H locs ls hw (lv_sub hl [1, 2, 3, 4, 0] rfl)
  have hJ_22 : ∀ (v1 v2 v3 : Int) (I : sk_S), rI v1 → rI v2 → rI v3 → J_Foreign_areNear_22 v1 v2 v3 Q I → ∀ (H : Heap) (locs : List Loc) (ls : Array Slot), sk_W G 198 sk_t I s H locs → lv_has ls 7 [(0, .ref (sk_ad G 149)), (1, .int (iI v1)), (2, .int (iI v2)), (3, .int (iI v3))] → W p l e (headSpec wsX1_areNear rmX1_areNear).room s m ([.ref (sk_ad G 149), .int (iI p1), .int (iI p2), .int (iI p3)].toArray) below meth c H locs 0 0 (MQ below (sk_Qz G 198 sk_t Q) ([.ref (sk_ad G 149), .int (iI p1), .int (iI p2), .int (iI p3)].toArray) s 0 0 (sk_A G)) (F0 m 22 ls []) := by
    intro v1 v2 v3 I hr_v1 hr_v2 hr_v3 hM H locs ls hw hl
    unfold J_Foreign_areNear_22 at hM
    refine lv_iconst (v := iI 0) hx hb (okX1_areNear (22, .iconst 0, 1) (List.mem_of_getElem? (i := 12) rfl)) rfl ?_
    exact hJ_23 v1 v2 v3 0 I hr_v1 hr_v2 hr_v3 (by decide) hM H locs ls hw (lv_sub hl [0, 1, 2, 3] rfl)
  unfold M_Foreign_areNear at hM
  intro H locs hw
  refine lv_aload_n hx hb (okX1_areNear (0, .aload_n 0, 1) (List.mem_of_getElem? (i := 0) rfl)) rfl (lv_at hl 0 rfl) ?_
  refine lv_iload_n hx hb (okX1_areNear (1, .iload_n 1, 1) (List.mem_of_getElem? (i := 1) rfl)) rfl (lv_at hl 1 rfl) ?_
  refine sk_ci (sk_runV (a := 149) (C := RX1) (As := [.int (iI p1)]) (rest := []) S (c_Foreign_end l G hr_p1 hM) sk_blind gX1_areNear_X1_end rfl hdX1_end ⟨⟨rfl, rfl⟩, Nat.le_of_ble_eq_true rfl, Nat.le_of_ble_eq_true rfl⟩ (sk_recv hK hw kdn_149 (kd_in kdn_149) (by decide) rfl) (sk_pre hK hw) rfl hl.1 rfl (Nat.le_of_ble_eq_true rfl) (okX1_areNear (2, .invokevirtual 90, 3) (List.mem_of_getElem? (i := 2) rfl)) ⟨Nat.zero_le _, Nat.zero_le _⟩) hw (fun r_2 I_2 H locs hr_r_2 hM hw => ?_)
  refine lv_iload_n hx hb (okX1_areNear (5, .iload_n 1, 1) (List.mem_of_getElem? (i := 3) rfl)) rfl (lv_at hl 1 rfl) ?_
  refine sk_icmp_eq (tgt := 22) hx hb hr_r_2 hr_p1 (okX1_areNear (6, .if_icmp .eq 16, 3) (List.mem_of_getElem? (i := 4) rfl)) (by decide) (fun c6 => ?_) (fun c6 => ?_)
  · have hM := hM.1 c6
    exact hJ_22 p1 p2 p3 I_2 hr_p1 hr_p2 hr_p3 hM H locs ls hw (lv_sub hl [0, 1, 2, 3] rfl)
  · have hM := hM.2 c6
    refine lv_aload_n hx hb (okX1_areNear (9, .aload_n 0, 1) (List.mem_of_getElem? (i := 5) rfl)) rfl (lv_at hl 0 rfl) ?_
    refine lv_iload_n hx hb (okX1_areNear (10, .iload_n 2, 1) (List.mem_of_getElem? (i := 6) rfl)) rfl (lv_at hl 2 rfl) ?_
    refine sk_ci (sk_runV (a := 149) (C := RX1) (As := [.int (iI p2)]) (rest := []) S (c_Foreign_end l G hr_p2 hM) sk_blind gX1_areNear_X1_end rfl hdX1_end ⟨⟨rfl, rfl⟩, Nat.le_of_ble_eq_true rfl, Nat.le_of_ble_eq_true rfl⟩ (sk_recv hK hw kdn_149 (kd_in kdn_149) (by decide) rfl) (sk_pre hK hw) rfl hl.1 rfl (Nat.le_of_ble_eq_true rfl) (okX1_areNear (11, .invokevirtual 90, 3) (List.mem_of_getElem? (i := 7) rfl)) ⟨Nat.zero_le _, Nat.zero_le _⟩) hw (fun r_11 I_11 H locs hr_r_11 hM hw => ?_)
    refine lv_iload_n hx hb (okX1_areNear (14, .iload_n 2, 1) (List.mem_of_getElem? (i := 8) rfl)) rfl (lv_at hl 2 rfl) ?_
    refine sk_icmp_eq (tgt := 22) hx hb hr_r_11 hr_p2 (okX1_areNear (15, .if_icmp .eq 7, 3) (List.mem_of_getElem? (i := 9) rfl)) (by decide) (fun c15 => ?_) (fun c15 => ?_)
    · have hM := hM.1 c15
      exact hJ_22 p1 p2 p3 I_11 hr_p1 hr_p2 hr_p3 hM H locs ls hw (lv_sub hl [0, 1, 2, 3] rfl)
    · have hM := hM.2 c15
      refine lv_iconst (v := iI 1) hx hb (okX1_areNear (18, .iconst 1, 1) (List.mem_of_getElem? (i := 10) rfl)) rfl ?_
      refine lv_goto (tgt := 23) hx hb (okX1_areNear (19, .goto 4, 3) (List.mem_of_getElem? (i := 11) rfl)) (by decide) ?_
      exact hJ_23 p1 p2 p3 1 I_11 hr_p1 hr_p2 hr_p3 (by decide) hM H locs ls hw (lv_sub hl [0, 1, 2, 3] rfl)
