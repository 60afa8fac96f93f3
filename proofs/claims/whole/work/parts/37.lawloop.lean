section LAWROWS
variable {p : Program} {l : Launch} {e : Env} {R : Room} {s : State} {m : MethodId} {args : Array Value} {below : List Frame} {meth : Method} {c : Code} {H : Heap} {locs : List Loc} {cells slots : Nat} {Q : State → Prop} {cc : ByteArray} {pc : Nat} {ls : Array Slot} {rest : List Value} {A : Nat → Prop} {b L : Nat} {xs : Nat → Int32} {X : Int → Int} {LL : Int}
theorem sk_sld (hx : p.tables.exec = Jvm.exec) (hb : c.code = cc) (hX : va_X b L xs s s.heap) (hbl : b < s.heap.size) (hbA : ¬ A b) (hS : va_S A s.heap H locs) (hXv : ∀ i : Nat, iI (X i) = xs i) (hLL : LL = (L : Int) ∧ LL ≤ 3072) {i : Int} (hi : 0 ≤ i ∧ i < LL) (hdg : decode cc pc = .ok (.iaload, 1))
    (kk : W p l e R s m args below meth c H locs cells slots Q (F0 m (pc + 1) ls (.int (iI (X i)) :: rest))) : W p l e R s m args below meth c H locs cells slots Q (F0 m pc ls (.int (iI i) :: .ref b :: rest)) := by
  obtain ⟨j, rfl⟩ : ∃ j : Nat, i = j := ⟨i.toNat, by omega⟩
  have hr : rI (j : Int) := ⟨by omega, by omega⟩
  have h1 := iI_in (x := j) (n := (L : Int)) ⟨by omega, by omega⟩ hr
  refine va_sld hx hb hX hbl hbA hS (by simpa using h1) hdg ?_
  rw [iI_cl hr (by omega), Int.toNat_natCast, ← hXv]
  exact kk
theorem sk_slen (hx : p.tables.exec = Jvm.exec) (hb : c.code = cc) (hX : va_X b L xs s s.heap) (hbl : b < s.heap.size) (hbA : ¬ A b) (hS : va_S A s.heap H locs) (hLL : LL = (L : Int) ∧ LL ≤ 3072) (hdg : decode cc pc = .ok (.arraylength, 1))
    (kk : W p l e R s m args below meth c H locs cells slots Q (F0 m (pc + 1) ls (.int (iI LL) :: rest))) : W p l e R s m args below meth c H locs cells slots Q (F0 m pc ls (.ref b :: rest)) := by
  refine va_slen hx hb hX hbl hbA hS hdg ?_
  rw [show Int32.ofNat L = iI LL from by rw [hLL.1]; exact Int32.ofInt_eq_ofNat.symm]
  exact kk
end LAWROWS
set_option maxHeartbeats 8000000 in
set_option maxRecDepth 100000 in
/-- the law's loop: where the pure predicate holds, the law comes to its end with true -/
theorem law_loop {p : Program} {e : Env} {s : State} {m : MethodId} {below : List Frame} {meth : Method} {c : Code} (l : Launch) (G : sk_G) {b L : Nat} {xs : Nat → Int32} (X : Int → Int) (LL : Int) (hx : p.tables.exec = Jvm.exec) (hb : c.code = code) (hr0 : meth.sig.returnType = ret) (hml : c.maxLocals = 4) (hown : s.vm.findClass RL = some m.cls) (hts : ∀ w ∈ wsL_law, w.before #[Value.ref b] s = true) (hX : va_X b L xs s s.heap) (hbl : b < s.heap.size) (hlocks : meth.locks = false) (hK : sk_K G s) (hG : G.2.2.2.2 = s.heap.size) (hXv : ∀ i : Nat, iI (X i) = xs i) (hXr : ∀ i : Int, rI (X i)) (hLL : LL = (L : Int) ∧ LL ≤ 3072) :
    ∀ (v3 : Int) (I : sk_S), rI v3 → L_law_18 X LL v3 I → ∀ (H : Heap) (locs : List Loc) (ls : Array Slot), sk_W G 198 sk_t I s H locs → lv_has ls 4 [(0, .ref b), (1, .ref (sk_ad G 0)), (2, .ref (sk_ad G 158)), (3, .int (iI v3))] → W p l e room_1 s m #[Value.ref b] below meth c H locs 198 8659 (lw_Z below #[Value.ref b] s) (F0 m 18 ls []) := by
  intro v3 I hr_v3 hM H locs ls hw hl
  have hrL : rI LL := ⟨by omega, by omega⟩
  have hbA : ¬ sk_A G b := by unfold sk_A; rw [hG]; omega
  have S : CallFix p m c code 4 s #[Value.ref b] wsL_law RL := ⟨hx, hb, hml, hown, hts⟩
  have hL0 := hts (.constantLong RL 18 (4294967295)) (by decide +kernel)
  unfold L_law_18 at hM
  obtain ⟨X_18, hX_18⟩ : ∃ X' : Int → sk_S → Prop, ∀ (v3 : Int) (I : sk_S), X' v3 I ↔ (rI v3 → ∀ (H : Heap) (locs : List Loc) (ls : Array Slot), sk_W G 198 sk_t I s H locs → lv_has ls 4 [(0, .ref b), (1, .ref (sk_ad G 0)), (2, .ref (sk_ad G 158)), (3, .int (iI v3))] → W p l e room_1 s m #[Value.ref b] below meth c H locs 198 8659 (lw_Z below #[Value.ref b] s) (F0 m 18 ls [])) := ⟨_, fun _ _ => Iff.rfl⟩
  refine (hX_18 v3 I).1 (hM X_18 (fun v3 I hM => (hX_18 v3 I).2 (fun hr_v3 H locs ls hw hl => ?_))) hr_v3 H locs ls hw hl
  refine lv_iload_n hx hb (okL_law_0 (18, .iload_n 3, 1) (List.mem_of_getElem? (i := 10) rfl)) rfl (lv_at hl 3 rfl) ?_
  refine lv_aload_n hx hb (okL_law_0 (19, .aload_n 0, 1) (List.mem_of_getElem? (i := 11) rfl)) rfl (lv_at hl 0 rfl) ?_
  refine sk_slen hx hb hX hbl hbA hw.2 hLL (okL_law_0 (20, .arraylength, 1) (List.mem_of_getElem? (i := 12) rfl)) ?_
  refine lv_bipush (v := iI 6) hx hb (okL_law_0 (21, .bipush 6, 2) (List.mem_of_getElem? (i := 13) rfl)) (by decide +kernel) ?_
  refine sk_isub hx hb (okL_law_0 (23, .isub, 1) (List.mem_of_getElem? (i := 14) rfl)) ?_
  obtain ⟨hr1, hM⟩ := hM
  refine sk_icmp_gt (tgt := 1014) hx hb hr_v3 hr1 (okL_law_0 (24, .if_icmp .gt 990, 3) (List.mem_of_getElem? (i := 15) rfl)) (by decide) (fun c24 => ?_) (fun c24 => ?_)
  · have hM := hM.1 c24
    refine lv_iconst (v := iI 1) hx hb (okL_law_13 (1014, .iconst 1, 1) (List.mem_of_getElem? (i := 28) rfl)) rfl ?_
    refine va_forget (fun q hq => by have := hw.2.2.2 q hq; unfold sk_A at this; rw [hG] at this; exact this) ?_
    refine W.widen (k := 600000) (n := 7302250) (Nat.le_of_ble_eq_true rfl) (Nat.le_of_ble_eq_true rfl) ?_
    exact lw_ret hx hb hr0 hlocks (okL_law_13 (1015, .ireturn, 1) (List.mem_of_getElem? (i := 29) rfl))
  · have hM := hM.2 c24
    refine lv_aload_n hx hb (okL_law_0 (27, .aload_n 0, 1) (List.mem_of_getElem? (i := 16) rfl)) rfl (lv_at hl 0 rfl) ?_
    refine lv_iload_n hx hb (okL_law_0 (28, .iload_n 3, 1) (List.mem_of_getElem? (i := 17) rfl)) rfl (lv_at hl 3 rfl) ?_
    obtain ⟨hi2, hM⟩ := hM
    refine sk_sld hx hb hX hbl hbA hw.2 hXv hLL hi2 (okL_law_0 (29, .iaload, 1) (List.mem_of_getElem? (i := 18) rfl)) ?_
    refine lv_bipush (v := iI 31) hx hb (okL_law_0 (30, .bipush 31, 2) (List.mem_of_getElem? (i := 19) rfl)) (by decide +kernel) ?_
    refine sk_iand hx hb (okL_law_0 (32, .iand, 1) (List.mem_of_getElem? (i := 20) rfl)) ?_
    rcases (show (iand (X v3) 31 < 0 ∨ 29 < iand (X v3) 31) ∨ iand (X v3) 31 = 0 ∨ iand (X v3) 31 = 1 ∨ iand (X v3) 31 = 2 ∨ iand (X v3) 31 = 3 ∨ iand (X v3) 31 = 4 ∨ iand (X v3) 31 = 5 ∨ iand (X v3) 31 = 6 ∨ iand (X v3) 31 = 7 ∨ iand (X v3) 31 = 8 ∨ iand (X v3) 31 = 9 ∨ iand (X v3) 31 = 10 ∨ iand (X v3) 31 = 11 ∨ iand (X v3) 31 = 12 ∨ iand (X v3) 31 = 13 ∨ iand (X v3) 31 = 14 ∨ iand (X v3) 31 = 15 ∨ iand (X v3) 31 = 16 ∨ iand (X v3) 31 = 17 ∨ iand (X v3) 31 = 18 ∨ iand (X v3) 31 = 19 ∨ iand (X v3) 31 = 20 ∨ iand (X v3) 31 = 21 ∨ iand (X v3) 31 = 22 ∨ iand (X v3) 31 = 23 ∨ iand (X v3) 31 = 24 ∨ iand (X v3) 31 = 25 ∨ iand (X v3) 31 = 26 ∨ iand (X v3) 31 = 27 ∨ iand (X v3) 31 = 28 ∨ iand (X v3) 31 = 29 by omega) with c33 | c33 | c33 | c33 | c33 | c33 | c33 | c33 | c33 | c33 | c33 | c33 | c33 | c33 | c33 | c33 | c33 | c33 | c33 | c33 | c33 | c33 | c33 | c33 | c33 | c33 | c33 | c33 | c33 | c33 | c33
    · have hM := hM.1 c33
      refine sk_tabOut (tgt := 1008) hx hb (rI_of _) c33 (okL_law_0 (33, .tableswitch 975 0 29 #[135, 178, 241, 254, 297, 320, 343, 386, 429, 452, 485, 518, 541, 554, 567, 620, 653, 676, 689, 712, 725, 748, 771, 784, 827, 840, 903, 916, 939, 952], 135) (List.mem_of_getElem? (i := 21) rfl)) (by decide) ?_
      obtain ⟨hr3, hM⟩ := hM
      obtain ⟨v3_1008, ev3_1008⟩ : ∃ y : Int, y = v3 + 6 := ⟨_, rfl⟩
      have hM := hM v3_1008 ev3_1008
      have hr_v3_1008 : rI v3_1008 := by rw [ev3_1008]; exact hr3
      refine lv_iinc (v := iI v3_1008) (lv' := [(3, .int (iI v3_1008)), (0, .ref b), (1, .ref (sk_ad G 0)), (2, .ref (sk_ad G 158))]) hx hb (okL_law_13 (1008, .iinc 3 6, 3) (List.mem_of_getElem? (i := 26) rfl)) hl (k := 3) rfl (by rw [ev3_1008]; exact iI_add _ _) (by decide) rfl (fun ls hl => ?_)
      refine lv_goto (tgt := 18) hx hb (okL_law_13 (1011, .goto (-993), 3) (List.mem_of_getElem? (i := 27) rfl)) (by decide) ?_
      exact (hX_18 v3_1008 I).1 hM hr_v3_1008 H locs ls hw (lv_sub hl [1, 2, 3, 0] rfl)
    · have hM := hM.2.1 c33
      refine sk_tabIn (tgt := 168) (off := 135) hx hb (rI_of _) (by rw [c33]; decide) (by rw [c33]; rfl) (okL_law_0 (33, .tableswitch 975 0 29 #[135, 178, 241, 254, 297, 320, 343, 386, 429, 452, 485, 518, 541, 554, 567, 620, 653, 676, 689, 712, 725, 748, 771, 784, 827, 840, 903, 916, 939, 952], 135) (List.mem_of_getElem? (i := 21) rfl)) (by decide) ?_
      refine lv_aload_n hx hb (okL_law_0 (168, .aload_n 1, 1) (List.mem_of_getElem? (i := 22) rfl)) rfl (lv_at hl 1 rfl) ?_
      refine lv_aload_n hx hb (okL_law_0 (169, .aload_n 0, 1) (List.mem_of_getElem? (i := 23) rfl)) rfl (lv_at hl 0 rfl) ?_
      refine lv_iload_n hx hb (okL_law_0 (170, .iload_n 3, 1) (List.mem_of_getElem? (i := 24) rfl)) rfl (lv_at hl 3 rfl) ?_
      refine lv_iconst (v := iI 1) hx hb (okL_law_0 (171, .iconst 1, 1) (List.mem_of_getElem? (i := 25) rfl)) rfl ?_
      refine sk_iadd hx hb (okL_law_0 (172, .iadd, 1) (List.mem_of_getElem? (i := 26) rfl)) ?_
      obtain ⟨hi4, hM⟩ := hM
      refine sk_sld hx hb hX hbl hbA hw.2 hXv hLL hi4 (okL_law_0 (173, .iaload, 1) (List.mem_of_getElem? (i := 27) rfl)) ?_
      refine lv_aload_n hx hb (okL_law_0 (174, .aload_n 0, 1) (List.mem_of_getElem? (i := 28) rfl)) rfl (lv_at hl 0 rfl) ?_
      refine lv_iload_n hx hb (okL_law_0 (175, .iload_n 3, 1) (List.mem_of_getElem? (i := 29) rfl)) rfl (lv_at hl 3 rfl) ?_
      refine lv_iconst (v := iI 2) hx hb (okL_law_0 (176, .iconst 2, 1) (List.mem_of_getElem? (i := 30) rfl)) rfl ?_
      refine sk_iadd hx hb (okL_law_0 (177, .iadd, 1) (List.mem_of_getElem? (i := 31) rfl)) ?_
      obtain ⟨hi5, hM⟩ := hM
      refine sk_sld hx hb hX hbl hbA hw.2 hXv hLL hi5 (okL_law_0 (178, .iaload, 1) (List.mem_of_getElem? (i := 32) rfl)) ?_
      refine lv_aload_n hx hb (okL_law_0 (179, .aload_n 0, 1) (List.mem_of_getElem? (i := 33) rfl)) rfl (lv_at hl 0 rfl) ?_
      refine lv_iload_n hx hb (okL_law_0 (180, .iload_n 3, 1) (List.mem_of_getElem? (i := 34) rfl)) rfl (lv_at hl 3 rfl) ?_
      refine lv_iconst (v := iI 3) hx hb (okL_law_0 (181, .iconst 3, 1) (List.mem_of_getElem? (i := 35) rfl)) rfl ?_
      refine sk_iadd hx hb (okL_law_0 (182, .iadd, 1) (List.mem_of_getElem? (i := 36) rfl)) ?_
      obtain ⟨hi6, hM⟩ := hM
      refine sk_sld hx hb hX hbl hbA hw.2 hXv hLL hi6 (okL_law_0 (183, .iaload, 1) (List.mem_of_getElem? (i := 37) rfl)) ?_
      refine sk_ci (sk_runV (a := 0) (C := RX11) (As := [.int (iI (X (v3 + 1))), .int (iI (X (v3 + 2))), .int (iI (X (v3 + 3)))]) (rest := []) S (c_Sky_flyer l G (hXr _) (hXr _) (hXr _) hM) sk_blind gL_law_X11_flyer rfl hdX11_flyer ⟨⟨rfl, rfl⟩, Nat.le_of_ble_eq_true rfl, Nat.le_of_ble_eq_true rfl⟩ (sk_recv hK hw kdn_0 (kd_in kdn_0) (by decide) rfl) (sk_pre hK hw) rfl hl.1 rfl (Nat.le_of_ble_eq_true rfl) (okL_law_0 (184, .invokevirtual 13, 3) (List.mem_of_getElem? (i := 38) rfl)) ⟨Nat.le_of_ble_eq_true rfl, Nat.le_of_ble_eq_true rfl⟩) hw (fun r_184 I_184 H locs hr_r_184 hM hw => ?_)
      refine lv_aload_n hx hb (okL_law_0 (187, .aload_n 2, 1) (List.mem_of_getElem? (i := 39) rfl)) rfl (lv_at hl 2 rfl) ?_
      refine lv_aload_n hx hb (okL_law_0 (188, .aload_n 0, 1) (List.mem_of_getElem? (i := 40) rfl)) rfl (lv_at hl 0 rfl) ?_
      refine lv_iload_n hx hb (okL_law_0 (189, .iload_n 3, 1) (List.mem_of_getElem? (i := 41) rfl)) rfl (lv_at hl 3 rfl) ?_
      refine lv_iconst (v := iI 1) hx hb (okL_law_0 (190, .iconst 1, 1) (List.mem_of_getElem? (i := 42) rfl)) rfl ?_
      refine sk_iadd hx hb (okL_law_0 (191, .iadd, 1) (List.mem_of_getElem? (i := 43) rfl)) ?_
      obtain ⟨hi7, hM⟩ := hM
      refine sk_sld hx hb hX hbl hbA hw.2 hXv hLL hi7 (okL_law_0 (192, .iaload, 1) (List.mem_of_getElem? (i := 44) rfl)) ?_
      refine lv_aload_n hx hb (okL_law_0 (193, .aload_n 0, 1) (List.mem_of_getElem? (i := 45) rfl)) rfl (lv_at hl 0 rfl) ?_
      refine lv_iload_n hx hb (okL_law_0 (194, .iload_n 3, 1) (List.mem_of_getElem? (i := 46) rfl)) rfl (lv_at hl 3 rfl) ?_
      refine lv_iconst (v := iI 2) hx hb (okL_law_0 (195, .iconst 2, 1) (List.mem_of_getElem? (i := 47) rfl)) rfl ?_
      refine sk_iadd hx hb (okL_law_0 (196, .iadd, 1) (List.mem_of_getElem? (i := 48) rfl)) ?_
      obtain ⟨hi8, hM⟩ := hM
      refine sk_sld hx hb hX hbl hbA hw.2 hXv hLL hi8 (okL_law_0 (197, .iaload, 1) (List.mem_of_getElem? (i := 49) rfl)) ?_
      refine lv_aload_n hx hb (okL_law_1 (198, .aload_n 0, 1) (List.mem_of_getElem? (i := 0) rfl)) rfl (lv_at hl 0 rfl) ?_
      refine lv_iload_n hx hb (okL_law_1 (199, .iload_n 3, 1) (List.mem_of_getElem? (i := 1) rfl)) rfl (lv_at hl 3 rfl) ?_
      refine lv_iconst (v := iI 3) hx hb (okL_law_1 (200, .iconst 3, 1) (List.mem_of_getElem? (i := 2) rfl)) rfl ?_
      refine sk_iadd hx hb (okL_law_1 (201, .iadd, 1) (List.mem_of_getElem? (i := 3) rfl)) ?_
      obtain ⟨hi9, hM⟩ := hM
      refine sk_sld hx hb hX hbl hbA hw.2 hXv hLL hi9 (okL_law_1 (202, .iaload, 1) (List.mem_of_getElem? (i := 4) rfl)) ?_
      refine sk_ci (sk_runV (a := 158) (C := RX12) (As := [.int (iI (X (v3 + 1))), .int (iI (X (v3 + 2))), .int (iI (X (v3 + 3)))]) (rest := [.int (iI r_184)]) S (c_Mo_flyer l G (hXr _) (hXr _) (hXr _) hM) sk_blind gL_law_X12_flyer rfl hdX12_flyer ⟨⟨rfl, rfl⟩, Nat.le_of_ble_eq_true rfl, Nat.le_of_ble_eq_true rfl⟩ (sk_recv hK hw kdn_158 (kd_in kdn_158) (by decide) rfl) (sk_pre hK hw) rfl hl.1 rfl (Nat.le_of_ble_eq_true rfl) (okL_law_1 (203, .invokevirtual 17, 3) (List.mem_of_getElem? (i := 5) rfl)) ⟨Nat.le_of_ble_eq_true rfl, Nat.le_of_ble_eq_true rfl⟩) hw (fun r_203 I_203 H locs hr_r_203 hM hw => ?_)
      refine sk_icmp_eq (tgt := 1008) hx hb hr_r_184 hr_r_203 (okL_law_1 (206, .if_icmp .eq 802, 3) (List.mem_of_getElem? (i := 6) rfl)) (by decide) (fun c206 => ?_) (fun c206 => ?_)
      · have hM := hM.1 c206
        obtain ⟨hr10, hM⟩ := hM
        obtain ⟨v3_1008, ev3_1008⟩ : ∃ y : Int, y = v3 + 6 := ⟨_, rfl⟩
        have hM := hM v3_1008 ev3_1008
        have hr_v3_1008 : rI v3_1008 := by rw [ev3_1008]; exact hr10
        refine lv_iinc (v := iI v3_1008) (lv' := [(3, .int (iI v3_1008)), (0, .ref b), (1, .ref (sk_ad G 0)), (2, .ref (sk_ad G 158))]) hx hb (okL_law_13 (1008, .iinc 3 6, 3) (List.mem_of_getElem? (i := 26) rfl)) hl (k := 3) rfl (by rw [ev3_1008]; exact iI_add _ _) (by decide) rfl (fun ls hl => ?_)
        refine lv_goto (tgt := 18) hx hb (okL_law_13 (1011, .goto (-993), 3) (List.mem_of_getElem? (i := 27) rfl)) (by decide) ?_
        exact (hX_18 v3_1008 I_203).1 hM hr_v3_1008 H locs ls hw (lv_sub hl [1, 2, 3, 0] rfl)
      · have hM := hM.2 c206
        refine lv_iconst (v := iI 0) hx hb (okL_law_1 (209, .iconst 0, 1) (List.mem_of_getElem? (i := 7) rfl)) rfl ?_
        exact hM.elim
    · have hM := hM.2.2.1 c33
      refine sk_tabIn (tgt := 211) (off := 178) hx hb (rI_of _) (by rw [c33]; decide) (by rw [c33]; rfl) (okL_law_0 (33, .tableswitch 975 0 29 #[135, 178, 241, 254, 297, 320, 343, 386, 429, 452, 485, 518, 541, 554, 567, 620, 653, 676, 689, 712, 725, 748, 771, 784, 827, 840, 903, 916, 939, 952], 135) (List.mem_of_getElem? (i := 21) rfl)) (by decide) ?_
      refine lv_aload_n hx hb (okL_law_1 (211, .aload_n 1, 1) (List.mem_of_getElem? (i := 9) rfl)) rfl (lv_at hl 1 rfl) ?_
      refine lv_aload_n hx hb (okL_law_1 (212, .aload_n 0, 1) (List.mem_of_getElem? (i := 10) rfl)) rfl (lv_at hl 0 rfl) ?_
      refine lv_iload_n hx hb (okL_law_1 (213, .iload_n 3, 1) (List.mem_of_getElem? (i := 11) rfl)) rfl (lv_at hl 3 rfl) ?_
      refine lv_iconst (v := iI 1) hx hb (okL_law_1 (214, .iconst 1, 1) (List.mem_of_getElem? (i := 12) rfl)) rfl ?_
      refine sk_iadd hx hb (okL_law_1 (215, .iadd, 1) (List.mem_of_getElem? (i := 13) rfl)) ?_
      obtain ⟨hi11, hM⟩ := hM
      refine sk_sld hx hb hX hbl hbA hw.2 hXv hLL hi11 (okL_law_1 (216, .iaload, 1) (List.mem_of_getElem? (i := 14) rfl)) ?_
      refine sk_i2l hx hb (hXr _) (okL_law_1 (217, .i2l, 1) (List.mem_of_getElem? (i := 15) rfl)) ?_
      refine lv_bipush (v := iI 32) hx hb (okL_law_1 (218, .bipush 32, 2) (List.mem_of_getElem? (i := 16) rfl)) (by decide +kernel) ?_
      refine sk_lshl hx hb (okL_law_1 (220, .lshl, 1) (List.mem_of_getElem? (i := 17) rfl)) ?_
      refine lv_aload_n hx hb (okL_law_1 (221, .aload_n 0, 1) (List.mem_of_getElem? (i := 18) rfl)) rfl (lv_at hl 0 rfl) ?_
      refine lv_iload_n hx hb (okL_law_1 (222, .iload_n 3, 1) (List.mem_of_getElem? (i := 19) rfl)) rfl (lv_at hl 3 rfl) ?_
      refine lv_iconst (v := iI 2) hx hb (okL_law_1 (223, .iconst 2, 1) (List.mem_of_getElem? (i := 20) rfl)) rfl ?_
      refine sk_iadd hx hb (okL_law_1 (224, .iadd, 1) (List.mem_of_getElem? (i := 21) rfl)) ?_
      obtain ⟨hi12, hM⟩ := hM
      refine sk_sld hx hb hX hbl hbA hw.2 hXv hLL hi12 (okL_law_1 (225, .iaload, 1) (List.mem_of_getElem? (i := 22) rfl)) ?_
      refine sk_i2l hx hb (hXr _) (okL_law_1 (226, .i2l, 1) (List.mem_of_getElem? (i := 23) rfl)) ?_
      refine lv_ldc2 (v := lI 4294967295) hx hb hown (by rw [show lI 4294967295 = (4294967295 : Int64) from by decide +kernel]; exact hL0) (okL_law_1 (227, .ldc2_w 18, 3) (List.mem_of_getElem? (i := 24) rfl)) ?_
      refine sk_land hx hb (okL_law_1 (230, .land, 1) (List.mem_of_getElem? (i := 25) rfl)) ?_
      refine sk_lor hx hb (okL_law_1 (231, .lor, 1) (List.mem_of_getElem? (i := 26) rfl)) ?_
      refine lv_aload_n hx hb (okL_law_1 (232, .aload_n 0, 1) (List.mem_of_getElem? (i := 27) rfl)) rfl (lv_at hl 0 rfl) ?_
      refine lv_iload_n hx hb (okL_law_1 (233, .iload_n 3, 1) (List.mem_of_getElem? (i := 28) rfl)) rfl (lv_at hl 3 rfl) ?_
      refine lv_iconst (v := iI 3) hx hb (okL_law_1 (234, .iconst 3, 1) (List.mem_of_getElem? (i := 29) rfl)) rfl ?_
      refine sk_iadd hx hb (okL_law_1 (235, .iadd, 1) (List.mem_of_getElem? (i := 30) rfl)) ?_
      obtain ⟨hi13, hM⟩ := hM
      refine sk_sld hx hb hX hbl hbA hw.2 hXv hLL hi13 (okL_law_1 (236, .iaload, 1) (List.mem_of_getElem? (i := 31) rfl)) ?_
      refine sk_ci (sk_runV (a := 0) (C := RX11) (As := [.long (lI (lor (lshl (X (v3 + 1)) 32) (land (X (v3 + 2)) 4294967295))), .int (iI (X (v3 + 3)))]) (rest := []) S (c_Sky_feed l G (rL_of _) (hXr _) hM) sk_blind gL_law_X11_feed rfl hdX11_feed ⟨⟨rfl, rfl⟩, Nat.le_of_ble_eq_true rfl, Nat.le_of_ble_eq_true rfl⟩ (sk_recv hK hw kdn_0 (kd_in kdn_0) (by decide) rfl) (sk_pre hK hw) rfl hl.1 rfl (Nat.le_of_ble_eq_true rfl) (okL_law_1 (237, .invokevirtual 20, 3) (List.mem_of_getElem? (i := 32) rfl)) ⟨Nat.le_of_ble_eq_true rfl, Nat.le_of_ble_eq_true rfl⟩) hw (fun r_237 I_237 H locs hr_r_237 hM hw => ?_)
      refine lv_aload_n hx hb (okL_law_1 (240, .aload_n 2, 1) (List.mem_of_getElem? (i := 33) rfl)) rfl (lv_at hl 2 rfl) ?_
      refine lv_aload_n hx hb (okL_law_1 (241, .aload_n 0, 1) (List.mem_of_getElem? (i := 34) rfl)) rfl (lv_at hl 0 rfl) ?_
      refine lv_iload_n hx hb (okL_law_1 (242, .iload_n 3, 1) (List.mem_of_getElem? (i := 35) rfl)) rfl (lv_at hl 3 rfl) ?_
      refine lv_iconst (v := iI 1) hx hb (okL_law_1 (243, .iconst 1, 1) (List.mem_of_getElem? (i := 36) rfl)) rfl ?_
      refine sk_iadd hx hb (okL_law_1 (244, .iadd, 1) (List.mem_of_getElem? (i := 37) rfl)) ?_
      obtain ⟨hi14, hM⟩ := hM
      refine sk_sld hx hb hX hbl hbA hw.2 hXv hLL hi14 (okL_law_1 (245, .iaload, 1) (List.mem_of_getElem? (i := 38) rfl)) ?_
      refine sk_i2l hx hb (hXr _) (okL_law_1 (246, .i2l, 1) (List.mem_of_getElem? (i := 39) rfl)) ?_
      refine lv_bipush (v := iI 32) hx hb (okL_law_1 (247, .bipush 32, 2) (List.mem_of_getElem? (i := 40) rfl)) (by decide +kernel) ?_
      refine sk_lshl hx hb (okL_law_1 (249, .lshl, 1) (List.mem_of_getElem? (i := 41) rfl)) ?_
      refine lv_aload_n hx hb (okL_law_1 (250, .aload_n 0, 1) (List.mem_of_getElem? (i := 42) rfl)) rfl (lv_at hl 0 rfl) ?_
      refine lv_iload_n hx hb (okL_law_1 (251, .iload_n 3, 1) (List.mem_of_getElem? (i := 43) rfl)) rfl (lv_at hl 3 rfl) ?_
      refine lv_iconst (v := iI 2) hx hb (okL_law_1 (252, .iconst 2, 1) (List.mem_of_getElem? (i := 44) rfl)) rfl ?_
      refine sk_iadd hx hb (okL_law_1 (253, .iadd, 1) (List.mem_of_getElem? (i := 45) rfl)) ?_
      obtain ⟨hi15, hM⟩ := hM
      refine sk_sld hx hb hX hbl hbA hw.2 hXv hLL hi15 (okL_law_1 (254, .iaload, 1) (List.mem_of_getElem? (i := 46) rfl)) ?_
      refine sk_i2l hx hb (hXr _) (okL_law_1 (255, .i2l, 1) (List.mem_of_getElem? (i := 47) rfl)) ?_
      refine lv_ldc2 (v := lI 4294967295) hx hb hown (by rw [show lI 4294967295 = (4294967295 : Int64) from by decide +kernel]; exact hL0) (okL_law_1 (256, .ldc2_w 18, 3) (List.mem_of_getElem? (i := 48) rfl)) ?_
      refine sk_land hx hb (okL_law_1 (259, .land, 1) (List.mem_of_getElem? (i := 49) rfl)) ?_
      refine sk_lor hx hb (okL_law_2 (260, .lor, 1) (List.mem_of_getElem? (i := 0) rfl)) ?_
      refine lv_aload_n hx hb (okL_law_2 (261, .aload_n 0, 1) (List.mem_of_getElem? (i := 1) rfl)) rfl (lv_at hl 0 rfl) ?_
      refine lv_iload_n hx hb (okL_law_2 (262, .iload_n 3, 1) (List.mem_of_getElem? (i := 2) rfl)) rfl (lv_at hl 3 rfl) ?_
      refine lv_iconst (v := iI 3) hx hb (okL_law_2 (263, .iconst 3, 1) (List.mem_of_getElem? (i := 3) rfl)) rfl ?_
      refine sk_iadd hx hb (okL_law_2 (264, .iadd, 1) (List.mem_of_getElem? (i := 4) rfl)) ?_
      obtain ⟨hi16, hM⟩ := hM
      refine sk_sld hx hb hX hbl hbA hw.2 hXv hLL hi16 (okL_law_2 (265, .iaload, 1) (List.mem_of_getElem? (i := 5) rfl)) ?_
      refine sk_ci (sk_runV (a := 158) (C := RX12) (As := [.long (lI (lor (lshl (X (v3 + 1)) 32) (land (X (v3 + 2)) 4294967295))), .int (iI (X (v3 + 3)))]) (rest := [.int (iI r_237)]) S (c_Mo_feed l G (rL_of _) (hXr _) hM) sk_blind gL_law_X12_feed rfl hdX12_feed ⟨⟨rfl, rfl⟩, Nat.le_of_ble_eq_true rfl, Nat.le_of_ble_eq_true rfl⟩ (sk_recv hK hw kdn_158 (kd_in kdn_158) (by decide) rfl) (sk_pre hK hw) rfl hl.1 rfl (Nat.le_of_ble_eq_true rfl) (okL_law_2 (266, .invokevirtual 24, 3) (List.mem_of_getElem? (i := 6) rfl)) ⟨Nat.le_of_ble_eq_true rfl, Nat.le_of_ble_eq_true rfl⟩) hw (fun r_266 I_266 H locs hr_r_266 hM hw => ?_)
      refine sk_icmp_eq (tgt := 1008) hx hb hr_r_237 hr_r_266 (okL_law_2 (269, .if_icmp .eq 739, 3) (List.mem_of_getElem? (i := 7) rfl)) (by decide) (fun c269 => ?_) (fun c269 => ?_)
      · have hM := hM.1 c269
        obtain ⟨hr17, hM⟩ := hM
        obtain ⟨v3_1008, ev3_1008⟩ : ∃ y : Int, y = v3 + 6 := ⟨_, rfl⟩
        have hM := hM v3_1008 ev3_1008
        have hr_v3_1008 : rI v3_1008 := by rw [ev3_1008]; exact hr17
        refine lv_iinc (v := iI v3_1008) (lv' := [(3, .int (iI v3_1008)), (0, .ref b), (1, .ref (sk_ad G 0)), (2, .ref (sk_ad G 158))]) hx hb (okL_law_13 (1008, .iinc 3 6, 3) (List.mem_of_getElem? (i := 26) rfl)) hl (k := 3) rfl (by rw [ev3_1008]; exact iI_add _ _) (by decide) rfl (fun ls hl => ?_)
        refine lv_goto (tgt := 18) hx hb (okL_law_13 (1011, .goto (-993), 3) (List.mem_of_getElem? (i := 27) rfl)) (by decide) ?_
        exact (hX_18 v3_1008 I_266).1 hM hr_v3_1008 H locs ls hw (lv_sub hl [1, 2, 3, 0] rfl)
      · have hM := hM.2 c269
        refine lv_iconst (v := iI 0) hx hb (okL_law_2 (272, .iconst 0, 1) (List.mem_of_getElem? (i := 8) rfl)) rfl ?_
        exact hM.elim
    · have hM := hM.2.2.2.1 c33
      refine sk_tabIn (tgt := 274) (off := 241) hx hb (rI_of _) (by rw [c33]; decide) (by rw [c33]; rfl) (okL_law_0 (33, .tableswitch 975 0 29 #[135, 178, 241, 254, 297, 320, 343, 386, 429, 452, 485, 518, 541, 554, 567, 620, 653, 676, 689, 712, 725, 748, 771, 784, 827, 840, 903, 916, 939, 952], 135) (List.mem_of_getElem? (i := 21) rfl)) (by decide) ?_
      refine lv_aload_n hx hb (okL_law_2 (274, .aload_n 1, 1) (List.mem_of_getElem? (i := 10) rfl)) rfl (lv_at hl 1 rfl) ?_
      refine sk_ci (sk_runV (a := 0) (C := RX11) (As := []) (rest := []) S (c_Sky_figure l G hM) sk_blind gL_law_X11_figure rfl hdX11_figure ⟨⟨rfl, rfl⟩, Nat.le_of_ble_eq_true rfl, Nat.le_of_ble_eq_true rfl⟩ (sk_recv hK hw kdn_0 (kd_in kdn_0) (by decide) rfl) (sk_pre hK hw) rfl hl.1 rfl (Nat.le_of_ble_eq_true rfl) (okL_law_2 (275, .invokevirtual 25, 3) (List.mem_of_getElem? (i := 11) rfl)) ⟨Nat.le_of_ble_eq_true rfl, Nat.le_of_ble_eq_true rfl⟩) hw (fun r_275 I_275 H locs hr_r_275 hM hw => ?_)
      refine lv_aload_n hx hb (okL_law_2 (278, .aload_n 2, 1) (List.mem_of_getElem? (i := 12) rfl)) rfl (lv_at hl 2 rfl) ?_
      refine sk_ci (sk_runV (a := 158) (C := RX12) (As := []) (rest := [.int (iI r_275)]) S (c_Mo_figure l G hM) sk_blind gL_law_X12_figure rfl hdX12_figure ⟨⟨rfl, rfl⟩, Nat.le_of_ble_eq_true rfl, Nat.le_of_ble_eq_true rfl⟩ (sk_recv hK hw kdn_158 (kd_in kdn_158) (by decide) rfl) (sk_pre hK hw) rfl hl.1 rfl (Nat.le_of_ble_eq_true rfl) (okL_law_2 (279, .invokevirtual 29, 3) (List.mem_of_getElem? (i := 13) rfl)) ⟨Nat.le_of_ble_eq_true rfl, Nat.le_of_ble_eq_true rfl⟩) hw (fun r_279 I_279 H locs hr_r_279 hM hw => ?_)
      refine sk_icmp_eq (tgt := 1008) hx hb hr_r_275 hr_r_279 (okL_law_2 (282, .if_icmp .eq 726, 3) (List.mem_of_getElem? (i := 14) rfl)) (by decide) (fun c282 => ?_) (fun c282 => ?_)
      · have hM := hM.1 c282
        obtain ⟨hr18, hM⟩ := hM
        obtain ⟨v3_1008, ev3_1008⟩ : ∃ y : Int, y = v3 + 6 := ⟨_, rfl⟩
        have hM := hM v3_1008 ev3_1008
        have hr_v3_1008 : rI v3_1008 := by rw [ev3_1008]; exact hr18
        refine lv_iinc (v := iI v3_1008) (lv' := [(3, .int (iI v3_1008)), (0, .ref b), (1, .ref (sk_ad G 0)), (2, .ref (sk_ad G 158))]) hx hb (okL_law_13 (1008, .iinc 3 6, 3) (List.mem_of_getElem? (i := 26) rfl)) hl (k := 3) rfl (by rw [ev3_1008]; exact iI_add _ _) (by decide) rfl (fun ls hl => ?_)
        refine lv_goto (tgt := 18) hx hb (okL_law_13 (1011, .goto (-993), 3) (List.mem_of_getElem? (i := 27) rfl)) (by decide) ?_
        exact (hX_18 v3_1008 I_279).1 hM hr_v3_1008 H locs ls hw (lv_sub hl [1, 2, 3, 0] rfl)
      · have hM := hM.2 c282
        refine lv_iconst (v := iI 0) hx hb (okL_law_2 (285, .iconst 0, 1) (List.mem_of_getElem? (i := 15) rfl)) rfl ?_
        exact hM.elim
    · have hM := hM.2.2.2.2.1 c33
      refine sk_tabIn (tgt := 287) (off := 254) hx hb (rI_of _) (by rw [c33]; decide) (by rw [c33]; rfl) (okL_law_0 (33, .tableswitch 975 0 29 #[135, 178, 241, 254, 297, 320, 343, 386, 429, 452, 485, 518, 541, 554, 567, 620, 653, 676, 689, 712, 725, 748, 771, 784, 827, 840, 903, 916, 939, 952], 135) (List.mem_of_getElem? (i := 21) rfl)) (by decide) ?_
      refine lv_aload_n hx hb (okL_law_2 (287, .aload_n 1, 1) (List.mem_of_getElem? (i := 17) rfl)) rfl (lv_at hl 1 rfl) ?_
      refine lv_aload_n hx hb (okL_law_2 (288, .aload_n 0, 1) (List.mem_of_getElem? (i := 18) rfl)) rfl (lv_at hl 0 rfl) ?_
      refine lv_iload_n hx hb (okL_law_2 (289, .iload_n 3, 1) (List.mem_of_getElem? (i := 19) rfl)) rfl (lv_at hl 3 rfl) ?_
      refine lv_iconst (v := iI 1) hx hb (okL_law_2 (290, .iconst 1, 1) (List.mem_of_getElem? (i := 20) rfl)) rfl ?_
      refine sk_iadd hx hb (okL_law_2 (291, .iadd, 1) (List.mem_of_getElem? (i := 21) rfl)) ?_
      obtain ⟨hi19, hM⟩ := hM
      refine sk_sld hx hb hX hbl hbA hw.2 hXv hLL hi19 (okL_law_2 (292, .iaload, 1) (List.mem_of_getElem? (i := 22) rfl)) ?_
      refine lv_aload_n hx hb (okL_law_2 (293, .aload_n 0, 1) (List.mem_of_getElem? (i := 23) rfl)) rfl (lv_at hl 0 rfl) ?_
      refine lv_iload_n hx hb (okL_law_2 (294, .iload_n 3, 1) (List.mem_of_getElem? (i := 24) rfl)) rfl (lv_at hl 3 rfl) ?_
      refine lv_iconst (v := iI 2) hx hb (okL_law_2 (295, .iconst 2, 1) (List.mem_of_getElem? (i := 25) rfl)) rfl ?_
      refine sk_iadd hx hb (okL_law_2 (296, .iadd, 1) (List.mem_of_getElem? (i := 26) rfl)) ?_
      obtain ⟨hi20, hM⟩ := hM
      refine sk_sld hx hb hX hbl hbA hw.2 hXv hLL hi20 (okL_law_2 (297, .iaload, 1) (List.mem_of_getElem? (i := 27) rfl)) ?_
      refine lv_aload_n hx hb (okL_law_2 (298, .aload_n 0, 1) (List.mem_of_getElem? (i := 28) rfl)) rfl (lv_at hl 0 rfl) ?_
      refine lv_iload_n hx hb (okL_law_2 (299, .iload_n 3, 1) (List.mem_of_getElem? (i := 29) rfl)) rfl (lv_at hl 3 rfl) ?_
      refine lv_iconst (v := iI 3) hx hb (okL_law_2 (300, .iconst 3, 1) (List.mem_of_getElem? (i := 30) rfl)) rfl ?_
      refine sk_iadd hx hb (okL_law_2 (301, .iadd, 1) (List.mem_of_getElem? (i := 31) rfl)) ?_
      obtain ⟨hi21, hM⟩ := hM
      refine sk_sld hx hb hX hbl hbA hw.2 hXv hLL hi21 (okL_law_2 (302, .iaload, 1) (List.mem_of_getElem? (i := 32) rfl)) ?_
      refine sk_ci (sk_runV (a := 0) (C := RX11) (As := [.int (iI (X (v3 + 1))), .int (iI (X (v3 + 2))), .int (iI (X (v3 + 3)))]) (rest := []) S (c_Sky_point l G (hXr _) (hXr _) (hXr _) hM) sk_blind gL_law_X11_point rfl hdX11_point ⟨⟨rfl, rfl⟩, Nat.le_of_ble_eq_true rfl, Nat.le_of_ble_eq_true rfl⟩ (sk_recv hK hw kdn_0 (kd_in kdn_0) (by decide) rfl) (sk_pre hK hw) rfl hl.1 rfl (Nat.le_of_ble_eq_true rfl) (okL_law_2 (303, .invokevirtual 30, 3) (List.mem_of_getElem? (i := 33) rfl)) ⟨Nat.le_of_ble_eq_true rfl, Nat.le_of_ble_eq_true rfl⟩) hw (fun r_303 I_303 H locs hr_r_303 hM hw => ?_)
      refine lv_aload_n hx hb (okL_law_2 (306, .aload_n 2, 1) (List.mem_of_getElem? (i := 34) rfl)) rfl (lv_at hl 2 rfl) ?_
      refine lv_aload_n hx hb (okL_law_2 (307, .aload_n 0, 1) (List.mem_of_getElem? (i := 35) rfl)) rfl (lv_at hl 0 rfl) ?_
      refine lv_iload_n hx hb (okL_law_2 (308, .iload_n 3, 1) (List.mem_of_getElem? (i := 36) rfl)) rfl (lv_at hl 3 rfl) ?_
      refine lv_iconst (v := iI 1) hx hb (okL_law_2 (309, .iconst 1, 1) (List.mem_of_getElem? (i := 37) rfl)) rfl ?_
      refine sk_iadd hx hb (okL_law_2 (310, .iadd, 1) (List.mem_of_getElem? (i := 38) rfl)) ?_
      obtain ⟨hi22, hM⟩ := hM
      refine sk_sld hx hb hX hbl hbA hw.2 hXv hLL hi22 (okL_law_2 (311, .iaload, 1) (List.mem_of_getElem? (i := 39) rfl)) ?_
      refine lv_aload_n hx hb (okL_law_2 (312, .aload_n 0, 1) (List.mem_of_getElem? (i := 40) rfl)) rfl (lv_at hl 0 rfl) ?_
      refine lv_iload_n hx hb (okL_law_2 (313, .iload_n 3, 1) (List.mem_of_getElem? (i := 41) rfl)) rfl (lv_at hl 3 rfl) ?_
      refine lv_iconst (v := iI 2) hx hb (okL_law_2 (314, .iconst 2, 1) (List.mem_of_getElem? (i := 42) rfl)) rfl ?_
      refine sk_iadd hx hb (okL_law_2 (315, .iadd, 1) (List.mem_of_getElem? (i := 43) rfl)) ?_
      obtain ⟨hi23, hM⟩ := hM
      refine sk_sld hx hb hX hbl hbA hw.2 hXv hLL hi23 (okL_law_2 (316, .iaload, 1) (List.mem_of_getElem? (i := 44) rfl)) ?_
      refine lv_aload_n hx hb (okL_law_2 (317, .aload_n 0, 1) (List.mem_of_getElem? (i := 45) rfl)) rfl (lv_at hl 0 rfl) ?_
      refine lv_iload_n hx hb (okL_law_2 (318, .iload_n 3, 1) (List.mem_of_getElem? (i := 46) rfl)) rfl (lv_at hl 3 rfl) ?_
      refine lv_iconst (v := iI 3) hx hb (okL_law_2 (319, .iconst 3, 1) (List.mem_of_getElem? (i := 47) rfl)) rfl ?_
      refine sk_iadd hx hb (okL_law_2 (320, .iadd, 1) (List.mem_of_getElem? (i := 48) rfl)) ?_
      obtain ⟨hi24, hM⟩ := hM
      refine sk_sld hx hb hX hbl hbA hw.2 hXv hLL hi24 (okL_law_2 (321, .iaload, 1) (List.mem_of_getElem? (i := 49) rfl)) ?_
      refine sk_ci (sk_runV (a := 158) (C := RX12) (As := [.int (iI (X (v3 + 1))), .int (iI (X (v3 + 2))), .int (iI (X (v3 + 3)))]) (rest := [.int (iI r_303)]) S (c_Mo_point_ l G (hXr _) (hXr _) (hXr _) hM) sk_blind gL_law_X12_point_ rfl hdX12_point_ ⟨⟨rfl, rfl⟩, Nat.le_of_ble_eq_true rfl, Nat.le_of_ble_eq_true rfl⟩ (sk_recv hK hw kdn_158 (kd_in kdn_158) (by decide) rfl) (sk_pre hK hw) rfl hl.1 rfl (Nat.le_of_ble_eq_true rfl) (okL_law_3 (322, .invokevirtual 33, 3) (List.mem_of_getElem? (i := 0) rfl)) ⟨Nat.le_of_ble_eq_true rfl, Nat.le_of_ble_eq_true rfl⟩) hw (fun r_322 I_322 H locs hr_r_322 hM hw => ?_)
      refine sk_icmp_eq (tgt := 1008) hx hb hr_r_303 hr_r_322 (okL_law_3 (325, .if_icmp .eq 683, 3) (List.mem_of_getElem? (i := 1) rfl)) (by decide) (fun c325 => ?_) (fun c325 => ?_)
      · have hM := hM.1 c325
        obtain ⟨hr25, hM⟩ := hM
        obtain ⟨v3_1008, ev3_1008⟩ : ∃ y : Int, y = v3 + 6 := ⟨_, rfl⟩
        have hM := hM v3_1008 ev3_1008
        have hr_v3_1008 : rI v3_1008 := by rw [ev3_1008]; exact hr25
        refine lv_iinc (v := iI v3_1008) (lv' := [(3, .int (iI v3_1008)), (0, .ref b), (1, .ref (sk_ad G 0)), (2, .ref (sk_ad G 158))]) hx hb (okL_law_13 (1008, .iinc 3 6, 3) (List.mem_of_getElem? (i := 26) rfl)) hl (k := 3) rfl (by rw [ev3_1008]; exact iI_add _ _) (by decide) rfl (fun ls hl => ?_)
        refine lv_goto (tgt := 18) hx hb (okL_law_13 (1011, .goto (-993), 3) (List.mem_of_getElem? (i := 27) rfl)) (by decide) ?_
        exact (hX_18 v3_1008 I_322).1 hM hr_v3_1008 H locs ls hw (lv_sub hl [1, 2, 3, 0] rfl)
      · have hM := hM.2 c325
        refine lv_iconst (v := iI 0) hx hb (okL_law_3 (328, .iconst 0, 1) (List.mem_of_getElem? (i := 2) rfl)) rfl ?_
        exact hM.elim
    · have hM := hM.2.2.2.2.2.1 c33
      refine sk_tabIn (tgt := 330) (off := 297) hx hb (rI_of _) (by rw [c33]; decide) (by rw [c33]; rfl) (okL_law_0 (33, .tableswitch 975 0 29 #[135, 178, 241, 254, 297, 320, 343, 386, 429, 452, 485, 518, 541, 554, 567, 620, 653, 676, 689, 712, 725, 748, 771, 784, 827, 840, 903, 916, 939, 952], 135) (List.mem_of_getElem? (i := 21) rfl)) (by decide) ?_
      refine lv_aload_n hx hb (okL_law_3 (330, .aload_n 1, 1) (List.mem_of_getElem? (i := 4) rfl)) rfl (lv_at hl 1 rfl) ?_
      refine lv_aload_n hx hb (okL_law_3 (331, .aload_n 0, 1) (List.mem_of_getElem? (i := 5) rfl)) rfl (lv_at hl 0 rfl) ?_
      refine lv_iload_n hx hb (okL_law_3 (332, .iload_n 3, 1) (List.mem_of_getElem? (i := 6) rfl)) rfl (lv_at hl 3 rfl) ?_
      refine lv_iconst (v := iI 1) hx hb (okL_law_3 (333, .iconst 1, 1) (List.mem_of_getElem? (i := 7) rfl)) rfl ?_
      refine sk_iadd hx hb (okL_law_3 (334, .iadd, 1) (List.mem_of_getElem? (i := 8) rfl)) ?_
      obtain ⟨hi26, hM⟩ := hM
      refine sk_sld hx hb hX hbl hbA hw.2 hXv hLL hi26 (okL_law_3 (335, .iaload, 1) (List.mem_of_getElem? (i := 9) rfl)) ?_
      refine sk_ci (sk_runV (a := 0) (C := RX11) (As := [.int (iI (X (v3 + 1)))]) (rest := []) S (c_Sky_spread l G (hXr _) hM) sk_blind gL_law_X11_spread rfl hdX11_spread ⟨⟨rfl, rfl⟩, Nat.le_of_ble_eq_true rfl, Nat.le_of_ble_eq_true rfl⟩ (sk_recv hK hw kdn_0 (kd_in kdn_0) (by decide) rfl) (sk_pre hK hw) rfl hl.1 rfl (Nat.le_of_ble_eq_true rfl) (okL_law_3 (336, .invokevirtual 34, 3) (List.mem_of_getElem? (i := 10) rfl)) ⟨Nat.le_of_ble_eq_true rfl, Nat.le_of_ble_eq_true rfl⟩) hw (fun r_336 I_336 H locs hr_r_336 hM hw => ?_)
      refine lv_aload_n hx hb (okL_law_3 (339, .aload_n 2, 1) (List.mem_of_getElem? (i := 11) rfl)) rfl (lv_at hl 2 rfl) ?_
      refine lv_aload_n hx hb (okL_law_3 (340, .aload_n 0, 1) (List.mem_of_getElem? (i := 12) rfl)) rfl (lv_at hl 0 rfl) ?_
      refine lv_iload_n hx hb (okL_law_3 (341, .iload_n 3, 1) (List.mem_of_getElem? (i := 13) rfl)) rfl (lv_at hl 3 rfl) ?_
      refine lv_iconst (v := iI 1) hx hb (okL_law_3 (342, .iconst 1, 1) (List.mem_of_getElem? (i := 14) rfl)) rfl ?_
      refine sk_iadd hx hb (okL_law_3 (343, .iadd, 1) (List.mem_of_getElem? (i := 15) rfl)) ?_
      obtain ⟨hi27, hM⟩ := hM
      refine sk_sld hx hb hX hbl hbA hw.2 hXv hLL hi27 (okL_law_3 (344, .iaload, 1) (List.mem_of_getElem? (i := 16) rfl)) ?_
      refine sk_ci (sk_runV (a := 158) (C := RX12) (As := [.int (iI (X (v3 + 1)))]) (rest := [.int (iI r_336)]) S (c_Mo_spread l G (hXr _) hM) sk_blind gL_law_X12_spread rfl hdX12_spread ⟨⟨rfl, rfl⟩, Nat.le_of_ble_eq_true rfl, Nat.le_of_ble_eq_true rfl⟩ (sk_recv hK hw kdn_158 (kd_in kdn_158) (by decide) rfl) (sk_pre hK hw) rfl hl.1 rfl (Nat.le_of_ble_eq_true rfl) (okL_law_3 (345, .invokevirtual 38, 3) (List.mem_of_getElem? (i := 17) rfl)) ⟨Nat.le_of_ble_eq_true rfl, Nat.le_of_ble_eq_true rfl⟩) hw (fun r_345 I_345 H locs hr_r_345 hM hw => ?_)
      refine sk_icmp_eq (tgt := 1008) hx hb hr_r_336 hr_r_345 (okL_law_3 (348, .if_icmp .eq 660, 3) (List.mem_of_getElem? (i := 18) rfl)) (by decide) (fun c348 => ?_) (fun c348 => ?_)
      · have hM := hM.1 c348
        obtain ⟨hr28, hM⟩ := hM
        obtain ⟨v3_1008, ev3_1008⟩ : ∃ y : Int, y = v3 + 6 := ⟨_, rfl⟩
        have hM := hM v3_1008 ev3_1008
        have hr_v3_1008 : rI v3_1008 := by rw [ev3_1008]; exact hr28
        refine lv_iinc (v := iI v3_1008) (lv' := [(3, .int (iI v3_1008)), (0, .ref b), (1, .ref (sk_ad G 0)), (2, .ref (sk_ad G 158))]) hx hb (okL_law_13 (1008, .iinc 3 6, 3) (List.mem_of_getElem? (i := 26) rfl)) hl (k := 3) rfl (by rw [ev3_1008]; exact iI_add _ _) (by decide) rfl (fun ls hl => ?_)
        refine lv_goto (tgt := 18) hx hb (okL_law_13 (1011, .goto (-993), 3) (List.mem_of_getElem? (i := 27) rfl)) (by decide) ?_
        exact (hX_18 v3_1008 I_345).1 hM hr_v3_1008 H locs ls hw (lv_sub hl [1, 2, 3, 0] rfl)
      · have hM := hM.2 c348
        refine lv_iconst (v := iI 0) hx hb (okL_law_3 (351, .iconst 0, 1) (List.mem_of_getElem? (i := 19) rfl)) rfl ?_
        exact hM.elim
    · have hM := hM.2.2.2.2.2.2.1 c33
      refine sk_tabIn (tgt := 353) (off := 320) hx hb (rI_of _) (by rw [c33]; decide) (by rw [c33]; rfl) (okL_law_0 (33, .tableswitch 975 0 29 #[135, 178, 241, 254, 297, 320, 343, 386, 429, 452, 485, 518, 541, 554, 567, 620, 653, 676, 689, 712, 725, 748, 771, 784, 827, 840, 903, 916, 939, 952], 135) (List.mem_of_getElem? (i := 21) rfl)) (by decide) ?_
      refine lv_aload_n hx hb (okL_law_3 (353, .aload_n 1, 1) (List.mem_of_getElem? (i := 21) rfl)) rfl (lv_at hl 1 rfl) ?_
      refine lv_aload_n hx hb (okL_law_3 (354, .aload_n 0, 1) (List.mem_of_getElem? (i := 22) rfl)) rfl (lv_at hl 0 rfl) ?_
      refine lv_iload_n hx hb (okL_law_3 (355, .iload_n 3, 1) (List.mem_of_getElem? (i := 23) rfl)) rfl (lv_at hl 3 rfl) ?_
      refine lv_iconst (v := iI 1) hx hb (okL_law_3 (356, .iconst 1, 1) (List.mem_of_getElem? (i := 24) rfl)) rfl ?_
      refine sk_iadd hx hb (okL_law_3 (357, .iadd, 1) (List.mem_of_getElem? (i := 25) rfl)) ?_
      obtain ⟨hi29, hM⟩ := hM
      refine sk_sld hx hb hX hbl hbA hw.2 hXv hLL hi29 (okL_law_3 (358, .iaload, 1) (List.mem_of_getElem? (i := 26) rfl)) ?_
      refine sk_ci (sk_runV (a := 0) (C := RX11) (As := [.int (iI (X (v3 + 1)))]) (rest := []) S (c_Sky_gap l G (hXr _) hM) sk_blind gL_law_X11_gap rfl hdX11_gap ⟨⟨rfl, rfl⟩, Nat.le_of_ble_eq_true rfl, Nat.le_of_ble_eq_true rfl⟩ (sk_recv hK hw kdn_0 (kd_in kdn_0) (by decide) rfl) (sk_pre hK hw) rfl hl.1 rfl (Nat.le_of_ble_eq_true rfl) (okL_law_3 (359, .invokevirtual 39, 3) (List.mem_of_getElem? (i := 27) rfl)) ⟨Nat.le_of_ble_eq_true rfl, Nat.le_of_ble_eq_true rfl⟩) hw (fun r_359 I_359 H locs hr_r_359 hM hw => ?_)
      refine lv_aload_n hx hb (okL_law_3 (362, .aload_n 2, 1) (List.mem_of_getElem? (i := 28) rfl)) rfl (lv_at hl 2 rfl) ?_
      refine lv_aload_n hx hb (okL_law_3 (363, .aload_n 0, 1) (List.mem_of_getElem? (i := 29) rfl)) rfl (lv_at hl 0 rfl) ?_
      refine lv_iload_n hx hb (okL_law_3 (364, .iload_n 3, 1) (List.mem_of_getElem? (i := 30) rfl)) rfl (lv_at hl 3 rfl) ?_
      refine lv_iconst (v := iI 1) hx hb (okL_law_3 (365, .iconst 1, 1) (List.mem_of_getElem? (i := 31) rfl)) rfl ?_
      refine sk_iadd hx hb (okL_law_3 (366, .iadd, 1) (List.mem_of_getElem? (i := 32) rfl)) ?_
      obtain ⟨hi30, hM⟩ := hM
      refine sk_sld hx hb hX hbl hbA hw.2 hXv hLL hi30 (okL_law_3 (367, .iaload, 1) (List.mem_of_getElem? (i := 33) rfl)) ?_
      refine sk_ci (sk_runV (a := 158) (C := RX12) (As := [.int (iI (X (v3 + 1)))]) (rest := [.int (iI r_359)]) S (c_Mo_gap l G (hXr _) hM) sk_blind gL_law_X12_gap rfl hdX12_gap ⟨⟨rfl, rfl⟩, Nat.le_of_ble_eq_true rfl, Nat.le_of_ble_eq_true rfl⟩ (sk_recv hK hw kdn_158 (kd_in kdn_158) (by decide) rfl) (sk_pre hK hw) rfl hl.1 rfl (Nat.le_of_ble_eq_true rfl) (okL_law_3 (368, .invokevirtual 42, 3) (List.mem_of_getElem? (i := 34) rfl)) ⟨Nat.le_of_ble_eq_true rfl, Nat.le_of_ble_eq_true rfl⟩) hw (fun r_368 I_368 H locs hr_r_368 hM hw => ?_)
      refine sk_icmp_eq (tgt := 1008) hx hb hr_r_359 hr_r_368 (okL_law_3 (371, .if_icmp .eq 637, 3) (List.mem_of_getElem? (i := 35) rfl)) (by decide) (fun c371 => ?_) (fun c371 => ?_)
      · have hM := hM.1 c371
        obtain ⟨hr31, hM⟩ := hM
        obtain ⟨v3_1008, ev3_1008⟩ : ∃ y : Int, y = v3 + 6 := ⟨_, rfl⟩
        have hM := hM v3_1008 ev3_1008
        have hr_v3_1008 : rI v3_1008 := by rw [ev3_1008]; exact hr31
        refine lv_iinc (v := iI v3_1008) (lv' := [(3, .int (iI v3_1008)), (0, .ref b), (1, .ref (sk_ad G 0)), (2, .ref (sk_ad G 158))]) hx hb (okL_law_13 (1008, .iinc 3 6, 3) (List.mem_of_getElem? (i := 26) rfl)) hl (k := 3) rfl (by rw [ev3_1008]; exact iI_add _ _) (by decide) rfl (fun ls hl => ?_)
        refine lv_goto (tgt := 18) hx hb (okL_law_13 (1011, .goto (-993), 3) (List.mem_of_getElem? (i := 27) rfl)) (by decide) ?_
        exact (hX_18 v3_1008 I_368).1 hM hr_v3_1008 H locs ls hw (lv_sub hl [1, 2, 3, 0] rfl)
      · have hM := hM.2 c371
        refine lv_iconst (v := iI 0) hx hb (okL_law_3 (374, .iconst 0, 1) (List.mem_of_getElem? (i := 36) rfl)) rfl ?_
        exact hM.elim
    · have hM := hM.2.2.2.2.2.2.2.1 c33
      refine sk_tabIn (tgt := 376) (off := 343) hx hb (rI_of _) (by rw [c33]; decide) (by rw [c33]; rfl) (okL_law_0 (33, .tableswitch 975 0 29 #[135, 178, 241, 254, 297, 320, 343, 386, 429, 452, 485, 518, 541, 554, 567, 620, 653, 676, 689, 712, 725, 748, 771, 784, 827, 840, 903, 916, 939, 952], 135) (List.mem_of_getElem? (i := 21) rfl)) (by decide) ?_
      refine lv_aload_n hx hb (okL_law_3 (376, .aload_n 1, 1) (List.mem_of_getElem? (i := 38) rfl)) rfl (lv_at hl 1 rfl) ?_
      refine lv_aload_n hx hb (okL_law_3 (377, .aload_n 0, 1) (List.mem_of_getElem? (i := 39) rfl)) rfl (lv_at hl 0 rfl) ?_
      refine lv_iload_n hx hb (okL_law_3 (378, .iload_n 3, 1) (List.mem_of_getElem? (i := 40) rfl)) rfl (lv_at hl 3 rfl) ?_
      refine lv_iconst (v := iI 1) hx hb (okL_law_3 (379, .iconst 1, 1) (List.mem_of_getElem? (i := 41) rfl)) rfl ?_
      refine sk_iadd hx hb (okL_law_3 (380, .iadd, 1) (List.mem_of_getElem? (i := 42) rfl)) ?_
      obtain ⟨hi32, hM⟩ := hM
      refine sk_sld hx hb hX hbl hbA hw.2 hXv hLL hi32 (okL_law_3 (381, .iaload, 1) (List.mem_of_getElem? (i := 43) rfl)) ?_
      refine lv_aload_n hx hb (okL_law_3 (382, .aload_n 0, 1) (List.mem_of_getElem? (i := 44) rfl)) rfl (lv_at hl 0 rfl) ?_
      refine lv_iload_n hx hb (okL_law_3 (383, .iload_n 3, 1) (List.mem_of_getElem? (i := 45) rfl)) rfl (lv_at hl 3 rfl) ?_
      refine lv_iconst (v := iI 2) hx hb (okL_law_3 (384, .iconst 2, 1) (List.mem_of_getElem? (i := 46) rfl)) rfl ?_
      refine sk_iadd hx hb (okL_law_3 (385, .iadd, 1) (List.mem_of_getElem? (i := 47) rfl)) ?_
      obtain ⟨hi33, hM⟩ := hM
      refine sk_sld hx hb hX hbl hbA hw.2 hXv hLL hi33 (okL_law_3 (386, .iaload, 1) (List.mem_of_getElem? (i := 48) rfl)) ?_
      refine lv_aload_n hx hb (okL_law_3 (387, .aload_n 0, 1) (List.mem_of_getElem? (i := 49) rfl)) rfl (lv_at hl 0 rfl) ?_
      refine lv_iload_n hx hb (okL_law_4 (388, .iload_n 3, 1) (List.mem_of_getElem? (i := 0) rfl)) rfl (lv_at hl 3 rfl) ?_
      refine lv_iconst (v := iI 3) hx hb (okL_law_4 (389, .iconst 3, 1) (List.mem_of_getElem? (i := 1) rfl)) rfl ?_
      refine sk_iadd hx hb (okL_law_4 (390, .iadd, 1) (List.mem_of_getElem? (i := 2) rfl)) ?_
      obtain ⟨hi34, hM⟩ := hM
      refine sk_sld hx hb hX hbl hbA hw.2 hXv hLL hi34 (okL_law_4 (391, .iaload, 1) (List.mem_of_getElem? (i := 3) rfl)) ?_
      refine sk_ci (sk_runV (a := 0) (C := RX11) (As := [.int (iI (X (v3 + 1))), .int (iI (X (v3 + 2))), .int (iI (X (v3 + 3)))]) (rest := []) S (c_Sky_zone l G (hXr _) (hXr _) (hXr _) hM) sk_blind gL_law_X11_zone rfl hdX11_zone ⟨⟨rfl, rfl⟩, Nat.le_of_ble_eq_true rfl, Nat.le_of_ble_eq_true rfl⟩ (sk_recv hK hw kdn_0 (kd_in kdn_0) (by decide) rfl) (sk_pre hK hw) rfl hl.1 rfl (Nat.le_of_ble_eq_true rfl) (okL_law_4 (392, .invokevirtual 43, 3) (List.mem_of_getElem? (i := 4) rfl)) ⟨Nat.le_of_ble_eq_true rfl, Nat.le_of_ble_eq_true rfl⟩) hw (fun r_392 I_392 H locs hr_r_392 hM hw => ?_)
      refine lv_aload_n hx hb (okL_law_4 (395, .aload_n 2, 1) (List.mem_of_getElem? (i := 5) rfl)) rfl (lv_at hl 2 rfl) ?_
      refine lv_aload_n hx hb (okL_law_4 (396, .aload_n 0, 1) (List.mem_of_getElem? (i := 6) rfl)) rfl (lv_at hl 0 rfl) ?_
      refine lv_iload_n hx hb (okL_law_4 (397, .iload_n 3, 1) (List.mem_of_getElem? (i := 7) rfl)) rfl (lv_at hl 3 rfl) ?_
      refine lv_iconst (v := iI 1) hx hb (okL_law_4 (398, .iconst 1, 1) (List.mem_of_getElem? (i := 8) rfl)) rfl ?_
      refine sk_iadd hx hb (okL_law_4 (399, .iadd, 1) (List.mem_of_getElem? (i := 9) rfl)) ?_
      obtain ⟨hi35, hM⟩ := hM
      refine sk_sld hx hb hX hbl hbA hw.2 hXv hLL hi35 (okL_law_4 (400, .iaload, 1) (List.mem_of_getElem? (i := 10) rfl)) ?_
      refine lv_aload_n hx hb (okL_law_4 (401, .aload_n 0, 1) (List.mem_of_getElem? (i := 11) rfl)) rfl (lv_at hl 0 rfl) ?_
      refine lv_iload_n hx hb (okL_law_4 (402, .iload_n 3, 1) (List.mem_of_getElem? (i := 12) rfl)) rfl (lv_at hl 3 rfl) ?_
      refine lv_iconst (v := iI 2) hx hb (okL_law_4 (403, .iconst 2, 1) (List.mem_of_getElem? (i := 13) rfl)) rfl ?_
      refine sk_iadd hx hb (okL_law_4 (404, .iadd, 1) (List.mem_of_getElem? (i := 14) rfl)) ?_
      obtain ⟨hi36, hM⟩ := hM
      refine sk_sld hx hb hX hbl hbA hw.2 hXv hLL hi36 (okL_law_4 (405, .iaload, 1) (List.mem_of_getElem? (i := 15) rfl)) ?_
      refine lv_aload_n hx hb (okL_law_4 (406, .aload_n 0, 1) (List.mem_of_getElem? (i := 16) rfl)) rfl (lv_at hl 0 rfl) ?_
      refine lv_iload_n hx hb (okL_law_4 (407, .iload_n 3, 1) (List.mem_of_getElem? (i := 17) rfl)) rfl (lv_at hl 3 rfl) ?_
      refine lv_iconst (v := iI 3) hx hb (okL_law_4 (408, .iconst 3, 1) (List.mem_of_getElem? (i := 18) rfl)) rfl ?_
      refine sk_iadd hx hb (okL_law_4 (409, .iadd, 1) (List.mem_of_getElem? (i := 19) rfl)) ?_
      obtain ⟨hi37, hM⟩ := hM
      refine sk_sld hx hb hX hbl hbA hw.2 hXv hLL hi37 (okL_law_4 (410, .iaload, 1) (List.mem_of_getElem? (i := 20) rfl)) ?_
      refine sk_ci (sk_runV (a := 158) (C := RX12) (As := [.int (iI (X (v3 + 1))), .int (iI (X (v3 + 2))), .int (iI (X (v3 + 3)))]) (rest := [.int (iI r_392)]) S (c_Mo_zone l G (hXr _) (hXr _) (hXr _) hM) sk_blind gL_law_X12_zone rfl hdX12_zone ⟨⟨rfl, rfl⟩, Nat.le_of_ble_eq_true rfl, Nat.le_of_ble_eq_true rfl⟩ (sk_recv hK hw kdn_158 (kd_in kdn_158) (by decide) rfl) (sk_pre hK hw) rfl hl.1 rfl (Nat.le_of_ble_eq_true rfl) (okL_law_4 (411, .invokevirtual 46, 3) (List.mem_of_getElem? (i := 21) rfl)) ⟨Nat.le_of_ble_eq_true rfl, Nat.le_of_ble_eq_true rfl⟩) hw (fun r_411 I_411 H locs hr_r_411 hM hw => ?_)
      refine sk_icmp_eq (tgt := 1008) hx hb hr_r_392 hr_r_411 (okL_law_4 (414, .if_icmp .eq 594, 3) (List.mem_of_getElem? (i := 22) rfl)) (by decide) (fun c414 => ?_) (fun c414 => ?_)
      · have hM := hM.1 c414
        obtain ⟨hr38, hM⟩ := hM
        obtain ⟨v3_1008, ev3_1008⟩ : ∃ y : Int, y = v3 + 6 := ⟨_, rfl⟩
        have hM := hM v3_1008 ev3_1008
        have hr_v3_1008 : rI v3_1008 := by rw [ev3_1008]; exact hr38
        refine lv_iinc (v := iI v3_1008) (lv' := [(3, .int (iI v3_1008)), (0, .ref b), (1, .ref (sk_ad G 0)), (2, .ref (sk_ad G 158))]) hx hb (okL_law_13 (1008, .iinc 3 6, 3) (List.mem_of_getElem? (i := 26) rfl)) hl (k := 3) rfl (by rw [ev3_1008]; exact iI_add _ _) (by decide) rfl (fun ls hl => ?_)
        refine lv_goto (tgt := 18) hx hb (okL_law_13 (1011, .goto (-993), 3) (List.mem_of_getElem? (i := 27) rfl)) (by decide) ?_
        exact (hX_18 v3_1008 I_411).1 hM hr_v3_1008 H locs ls hw (lv_sub hl [1, 2, 3, 0] rfl)
      · have hM := hM.2 c414
        refine lv_iconst (v := iI 0) hx hb (okL_law_4 (417, .iconst 0, 1) (List.mem_of_getElem? (i := 23) rfl)) rfl ?_
        exact hM.elim
    · have hM := hM.2.2.2.2.2.2.2.2.1 c33
      refine sk_tabIn (tgt := 419) (off := 386) hx hb (rI_of _) (by rw [c33]; decide) (by rw [c33]; rfl) (okL_law_0 (33, .tableswitch 975 0 29 #[135, 178, 241, 254, 297, 320, 343, 386, 429, 452, 485, 518, 541, 554, 567, 620, 653, 676, 689, 712, 725, 748, 771, 784, 827, 840, 903, 916, 939, 952], 135) (List.mem_of_getElem? (i := 21) rfl)) (by decide) ?_
      refine lv_aload_n hx hb (okL_law_4 (419, .aload_n 1, 1) (List.mem_of_getElem? (i := 25) rfl)) rfl (lv_at hl 1 rfl) ?_
      refine lv_aload_n hx hb (okL_law_4 (420, .aload_n 0, 1) (List.mem_of_getElem? (i := 26) rfl)) rfl (lv_at hl 0 rfl) ?_
      refine lv_iload_n hx hb (okL_law_4 (421, .iload_n 3, 1) (List.mem_of_getElem? (i := 27) rfl)) rfl (lv_at hl 3 rfl) ?_
      refine lv_iconst (v := iI 1) hx hb (okL_law_4 (422, .iconst 1, 1) (List.mem_of_getElem? (i := 28) rfl)) rfl ?_
      refine sk_iadd hx hb (okL_law_4 (423, .iadd, 1) (List.mem_of_getElem? (i := 29) rfl)) ?_
      obtain ⟨hi39, hM⟩ := hM
      refine sk_sld hx hb hX hbl hbA hw.2 hXv hLL hi39 (okL_law_4 (424, .iaload, 1) (List.mem_of_getElem? (i := 30) rfl)) ?_
      refine lv_aload_n hx hb (okL_law_4 (425, .aload_n 0, 1) (List.mem_of_getElem? (i := 31) rfl)) rfl (lv_at hl 0 rfl) ?_
      refine lv_iload_n hx hb (okL_law_4 (426, .iload_n 3, 1) (List.mem_of_getElem? (i := 32) rfl)) rfl (lv_at hl 3 rfl) ?_
      refine lv_iconst (v := iI 2) hx hb (okL_law_4 (427, .iconst 2, 1) (List.mem_of_getElem? (i := 33) rfl)) rfl ?_
      refine sk_iadd hx hb (okL_law_4 (428, .iadd, 1) (List.mem_of_getElem? (i := 34) rfl)) ?_
      obtain ⟨hi40, hM⟩ := hM
      refine sk_sld hx hb hX hbl hbA hw.2 hXv hLL hi40 (okL_law_4 (429, .iaload, 1) (List.mem_of_getElem? (i := 35) rfl)) ?_
      refine lv_aload_n hx hb (okL_law_4 (430, .aload_n 0, 1) (List.mem_of_getElem? (i := 36) rfl)) rfl (lv_at hl 0 rfl) ?_
      refine lv_iload_n hx hb (okL_law_4 (431, .iload_n 3, 1) (List.mem_of_getElem? (i := 37) rfl)) rfl (lv_at hl 3 rfl) ?_
      refine lv_iconst (v := iI 3) hx hb (okL_law_4 (432, .iconst 3, 1) (List.mem_of_getElem? (i := 38) rfl)) rfl ?_
      refine sk_iadd hx hb (okL_law_4 (433, .iadd, 1) (List.mem_of_getElem? (i := 39) rfl)) ?_
      obtain ⟨hi41, hM⟩ := hM
      refine sk_sld hx hb hX hbl hbA hw.2 hXv hLL hi41 (okL_law_4 (434, .iaload, 1) (List.mem_of_getElem? (i := 40) rfl)) ?_
      refine sk_ci (sk_runV (a := 0) (C := RX11) (As := [.int (iI (X (v3 + 1))), .int (iI (X (v3 + 2))), .int (iI (X (v3 + 3)))]) (rest := []) S (c_Sky_pass l G (hXr _) (hXr _) (hXr _) hM) sk_blind gL_law_X11_pass rfl hdX11_pass ⟨⟨rfl, rfl⟩, Nat.le_of_ble_eq_true rfl, Nat.le_of_ble_eq_true rfl⟩ (sk_recv hK hw kdn_0 (kd_in kdn_0) (by decide) rfl) (sk_pre hK hw) rfl hl.1 rfl (Nat.le_of_ble_eq_true rfl) (okL_law_4 (435, .invokevirtual 47, 3) (List.mem_of_getElem? (i := 41) rfl)) ⟨Nat.le_of_ble_eq_true rfl, Nat.le_of_ble_eq_true rfl⟩) hw (fun r_435 I_435 H locs hr_r_435 hM hw => ?_)
      refine lv_aload_n hx hb (okL_law_4 (438, .aload_n 2, 1) (List.mem_of_getElem? (i := 42) rfl)) rfl (lv_at hl 2 rfl) ?_
      refine lv_aload_n hx hb (okL_law_4 (439, .aload_n 0, 1) (List.mem_of_getElem? (i := 43) rfl)) rfl (lv_at hl 0 rfl) ?_
      refine lv_iload_n hx hb (okL_law_4 (440, .iload_n 3, 1) (List.mem_of_getElem? (i := 44) rfl)) rfl (lv_at hl 3 rfl) ?_
      refine lv_iconst (v := iI 1) hx hb (okL_law_4 (441, .iconst 1, 1) (List.mem_of_getElem? (i := 45) rfl)) rfl ?_
      refine sk_iadd hx hb (okL_law_4 (442, .iadd, 1) (List.mem_of_getElem? (i := 46) rfl)) ?_
      obtain ⟨hi42, hM⟩ := hM
      refine sk_sld hx hb hX hbl hbA hw.2 hXv hLL hi42 (okL_law_4 (443, .iaload, 1) (List.mem_of_getElem? (i := 47) rfl)) ?_
      refine lv_aload_n hx hb (okL_law_4 (444, .aload_n 0, 1) (List.mem_of_getElem? (i := 48) rfl)) rfl (lv_at hl 0 rfl) ?_
      refine lv_iload_n hx hb (okL_law_4 (445, .iload_n 3, 1) (List.mem_of_getElem? (i := 49) rfl)) rfl (lv_at hl 3 rfl) ?_
      refine lv_iconst (v := iI 2) hx hb (okL_law_5 (446, .iconst 2, 1) (List.mem_of_getElem? (i := 0) rfl)) rfl ?_
      refine sk_iadd hx hb (okL_law_5 (447, .iadd, 1) (List.mem_of_getElem? (i := 1) rfl)) ?_
      obtain ⟨hi43, hM⟩ := hM
      refine sk_sld hx hb hX hbl hbA hw.2 hXv hLL hi43 (okL_law_5 (448, .iaload, 1) (List.mem_of_getElem? (i := 2) rfl)) ?_
      refine lv_aload_n hx hb (okL_law_5 (449, .aload_n 0, 1) (List.mem_of_getElem? (i := 3) rfl)) rfl (lv_at hl 0 rfl) ?_
      refine lv_iload_n hx hb (okL_law_5 (450, .iload_n 3, 1) (List.mem_of_getElem? (i := 4) rfl)) rfl (lv_at hl 3 rfl) ?_
      refine lv_iconst (v := iI 3) hx hb (okL_law_5 (451, .iconst 3, 1) (List.mem_of_getElem? (i := 5) rfl)) rfl ?_
      refine sk_iadd hx hb (okL_law_5 (452, .iadd, 1) (List.mem_of_getElem? (i := 6) rfl)) ?_
      obtain ⟨hi44, hM⟩ := hM
      refine sk_sld hx hb hX hbl hbA hw.2 hXv hLL hi44 (okL_law_5 (453, .iaload, 1) (List.mem_of_getElem? (i := 7) rfl)) ?_
      refine sk_ci (sk_runV (a := 158) (C := RX12) (As := [.int (iI (X (v3 + 1))), .int (iI (X (v3 + 2))), .int (iI (X (v3 + 3)))]) (rest := [.int (iI r_435)]) S (c_Mo_pass l G (hXr _) (hXr _) (hXr _) hM) sk_blind gL_law_X12_pass rfl hdX12_pass ⟨⟨rfl, rfl⟩, Nat.le_of_ble_eq_true rfl, Nat.le_of_ble_eq_true rfl⟩ (sk_recv hK hw kdn_158 (kd_in kdn_158) (by decide) rfl) (sk_pre hK hw) rfl hl.1 rfl (Nat.le_of_ble_eq_true rfl) (okL_law_5 (454, .invokevirtual 50, 3) (List.mem_of_getElem? (i := 8) rfl)) ⟨Nat.le_of_ble_eq_true rfl, Nat.le_of_ble_eq_true rfl⟩) hw (fun r_454 I_454 H locs hr_r_454 hM hw => ?_)
      refine sk_icmp_eq (tgt := 1008) hx hb hr_r_435 hr_r_454 (okL_law_5 (457, .if_icmp .eq 551, 3) (List.mem_of_getElem? (i := 9) rfl)) (by decide) (fun c457 => ?_) (fun c457 => ?_)
      · have hM := hM.1 c457
        obtain ⟨hr45, hM⟩ := hM
        obtain ⟨v3_1008, ev3_1008⟩ : ∃ y : Int, y = v3 + 6 := ⟨_, rfl⟩
        have hM := hM v3_1008 ev3_1008
        have hr_v3_1008 : rI v3_1008 := by rw [ev3_1008]; exact hr45
        refine lv_iinc (v := iI v3_1008) (lv' := [(3, .int (iI v3_1008)), (0, .ref b), (1, .ref (sk_ad G 0)), (2, .ref (sk_ad G 158))]) hx hb (okL_law_13 (1008, .iinc 3 6, 3) (List.mem_of_getElem? (i := 26) rfl)) hl (k := 3) rfl (by rw [ev3_1008]; exact iI_add _ _) (by decide) rfl (fun ls hl => ?_)
        refine lv_goto (tgt := 18) hx hb (okL_law_13 (1011, .goto (-993), 3) (List.mem_of_getElem? (i := 27) rfl)) (by decide) ?_
        exact (hX_18 v3_1008 I_454).1 hM hr_v3_1008 H locs ls hw (lv_sub hl [1, 2, 3, 0] rfl)
      · have hM := hM.2 c457
        refine lv_iconst (v := iI 0) hx hb (okL_law_5 (460, .iconst 0, 1) (List.mem_of_getElem? (i := 10) rfl)) rfl ?_
        exact hM.elim
    · have hM := hM.2.2.2.2.2.2.2.2.2.1 c33
      refine sk_tabIn (tgt := 462) (off := 429) hx hb (rI_of _) (by rw [c33]; decide) (by rw [c33]; rfl) (okL_law_0 (33, .tableswitch 975 0 29 #[135, 178, 241, 254, 297, 320, 343, 386, 429, 452, 485, 518, 541, 554, 567, 620, 653, 676, 689, 712, 725, 748, 771, 784, 827, 840, 903, 916, 939, 952], 135) (List.mem_of_getElem? (i := 21) rfl)) (by decide) ?_
      refine lv_aload_n hx hb (okL_law_5 (462, .aload_n 1, 1) (List.mem_of_getElem? (i := 12) rfl)) rfl (lv_at hl 1 rfl) ?_
      refine lv_aload_n hx hb (okL_law_5 (463, .aload_n 0, 1) (List.mem_of_getElem? (i := 13) rfl)) rfl (lv_at hl 0 rfl) ?_
      refine lv_iload_n hx hb (okL_law_5 (464, .iload_n 3, 1) (List.mem_of_getElem? (i := 14) rfl)) rfl (lv_at hl 3 rfl) ?_
      refine lv_iconst (v := iI 1) hx hb (okL_law_5 (465, .iconst 1, 1) (List.mem_of_getElem? (i := 15) rfl)) rfl ?_
      refine sk_iadd hx hb (okL_law_5 (466, .iadd, 1) (List.mem_of_getElem? (i := 16) rfl)) ?_
      obtain ⟨hi46, hM⟩ := hM
      refine sk_sld hx hb hX hbl hbA hw.2 hXv hLL hi46 (okL_law_5 (467, .iaload, 1) (List.mem_of_getElem? (i := 17) rfl)) ?_
      refine sk_ci (sk_runV (a := 0) (C := RX11) (As := [.int (iI (X (v3 + 1)))]) (rest := []) S (c_Sky_goes l G (hXr _) hM) sk_blind gL_law_X11_goes rfl hdX11_goes ⟨⟨rfl, rfl⟩, Nat.le_of_ble_eq_true rfl, Nat.le_of_ble_eq_true rfl⟩ (sk_recv hK hw kdn_0 (kd_in kdn_0) (by decide) rfl) (sk_pre hK hw) rfl hl.1 rfl (Nat.le_of_ble_eq_true rfl) (okL_law_5 (468, .invokevirtual 51, 3) (List.mem_of_getElem? (i := 18) rfl)) ⟨Nat.le_of_ble_eq_true rfl, Nat.le_of_ble_eq_true rfl⟩) hw (fun r_468 I_468 H locs hr_r_468 hM hw => ?_)
      refine lv_aload_n hx hb (okL_law_5 (471, .aload_n 2, 1) (List.mem_of_getElem? (i := 19) rfl)) rfl (lv_at hl 2 rfl) ?_
      refine lv_aload_n hx hb (okL_law_5 (472, .aload_n 0, 1) (List.mem_of_getElem? (i := 20) rfl)) rfl (lv_at hl 0 rfl) ?_
      refine lv_iload_n hx hb (okL_law_5 (473, .iload_n 3, 1) (List.mem_of_getElem? (i := 21) rfl)) rfl (lv_at hl 3 rfl) ?_
      refine lv_iconst (v := iI 1) hx hb (okL_law_5 (474, .iconst 1, 1) (List.mem_of_getElem? (i := 22) rfl)) rfl ?_
      refine sk_iadd hx hb (okL_law_5 (475, .iadd, 1) (List.mem_of_getElem? (i := 23) rfl)) ?_
      obtain ⟨hi47, hM⟩ := hM
      refine sk_sld hx hb hX hbl hbA hw.2 hXv hLL hi47 (okL_law_5 (476, .iaload, 1) (List.mem_of_getElem? (i := 24) rfl)) ?_
      refine sk_ci (sk_runV (a := 158) (C := RX12) (As := [.int (iI (X (v3 + 1)))]) (rest := [.int (iI r_468)]) S (c_Mo_goes l G (hXr _) hM) sk_blind gL_law_X12_goes rfl hdX12_goes ⟨⟨rfl, rfl⟩, Nat.le_of_ble_eq_true rfl, Nat.le_of_ble_eq_true rfl⟩ (sk_recv hK hw kdn_158 (kd_in kdn_158) (by decide) rfl) (sk_pre hK hw) rfl hl.1 rfl (Nat.le_of_ble_eq_true rfl) (okL_law_5 (477, .invokevirtual 54, 3) (List.mem_of_getElem? (i := 25) rfl)) ⟨Nat.le_of_ble_eq_true rfl, Nat.le_of_ble_eq_true rfl⟩) hw (fun r_477 I_477 H locs hr_r_477 hM hw => ?_)
      refine sk_icmp_eq (tgt := 1008) hx hb hr_r_468 hr_r_477 (okL_law_5 (480, .if_icmp .eq 528, 3) (List.mem_of_getElem? (i := 26) rfl)) (by decide) (fun c480 => ?_) (fun c480 => ?_)
      · have hM := hM.1 c480
        obtain ⟨hr48, hM⟩ := hM
        obtain ⟨v3_1008, ev3_1008⟩ : ∃ y : Int, y = v3 + 6 := ⟨_, rfl⟩
        have hM := hM v3_1008 ev3_1008
        have hr_v3_1008 : rI v3_1008 := by rw [ev3_1008]; exact hr48
        refine lv_iinc (v := iI v3_1008) (lv' := [(3, .int (iI v3_1008)), (0, .ref b), (1, .ref (sk_ad G 0)), (2, .ref (sk_ad G 158))]) hx hb (okL_law_13 (1008, .iinc 3 6, 3) (List.mem_of_getElem? (i := 26) rfl)) hl (k := 3) rfl (by rw [ev3_1008]; exact iI_add _ _) (by decide) rfl (fun ls hl => ?_)
        refine lv_goto (tgt := 18) hx hb (okL_law_13 (1011, .goto (-993), 3) (List.mem_of_getElem? (i := 27) rfl)) (by decide) ?_
        exact (hX_18 v3_1008 I_477).1 hM hr_v3_1008 H locs ls hw (lv_sub hl [1, 2, 3, 0] rfl)
      · have hM := hM.2 c480
        refine lv_iconst (v := iI 0) hx hb (okL_law_5 (483, .iconst 0, 1) (List.mem_of_getElem? (i := 27) rfl)) rfl ?_
        exact hM.elim
    · have hM := hM.2.2.2.2.2.2.2.2.2.2.1 c33
      refine sk_tabIn (tgt := 485) (off := 452) hx hb (rI_of _) (by rw [c33]; decide) (by rw [c33]; rfl) (okL_law_0 (33, .tableswitch 975 0 29 #[135, 178, 241, 254, 297, 320, 343, 386, 429, 452, 485, 518, 541, 554, 567, 620, 653, 676, 689, 712, 725, 748, 771, 784, 827, 840, 903, 916, 939, 952], 135) (List.mem_of_getElem? (i := 21) rfl)) (by decide) ?_
      refine lv_aload_n hx hb (okL_law_5 (485, .aload_n 1, 1) (List.mem_of_getElem? (i := 29) rfl)) rfl (lv_at hl 1 rfl) ?_
      refine lv_aload_n hx hb (okL_law_5 (486, .aload_n 0, 1) (List.mem_of_getElem? (i := 30) rfl)) rfl (lv_at hl 0 rfl) ?_
      refine lv_iload_n hx hb (okL_law_5 (487, .iload_n 3, 1) (List.mem_of_getElem? (i := 31) rfl)) rfl (lv_at hl 3 rfl) ?_
      refine lv_iconst (v := iI 1) hx hb (okL_law_5 (488, .iconst 1, 1) (List.mem_of_getElem? (i := 32) rfl)) rfl ?_
      refine sk_iadd hx hb (okL_law_5 (489, .iadd, 1) (List.mem_of_getElem? (i := 33) rfl)) ?_
      obtain ⟨hi49, hM⟩ := hM
      refine sk_sld hx hb hX hbl hbA hw.2 hXv hLL hi49 (okL_law_5 (490, .iaload, 1) (List.mem_of_getElem? (i := 34) rfl)) ?_
      refine lv_aload_n hx hb (okL_law_5 (491, .aload_n 0, 1) (List.mem_of_getElem? (i := 35) rfl)) rfl (lv_at hl 0 rfl) ?_
      refine lv_iload_n hx hb (okL_law_5 (492, .iload_n 3, 1) (List.mem_of_getElem? (i := 36) rfl)) rfl (lv_at hl 3 rfl) ?_
      refine lv_iconst (v := iI 2) hx hb (okL_law_5 (493, .iconst 2, 1) (List.mem_of_getElem? (i := 37) rfl)) rfl ?_
      refine sk_iadd hx hb (okL_law_5 (494, .iadd, 1) (List.mem_of_getElem? (i := 38) rfl)) ?_
      obtain ⟨hi50, hM⟩ := hM
      refine sk_sld hx hb hX hbl hbA hw.2 hXv hLL hi50 (okL_law_5 (495, .iaload, 1) (List.mem_of_getElem? (i := 39) rfl)) ?_
      refine sk_ci (sk_runV (a := 0) (C := RX11) (As := [.int (iI (X (v3 + 1))), .int (iI (X (v3 + 2)))]) (rest := []) S (c_Sky_delay l G (hXr _) (hXr _) hM) sk_blind gL_law_X11_delay rfl hdX11_delay ⟨⟨rfl, rfl⟩, Nat.le_of_ble_eq_true rfl, Nat.le_of_ble_eq_true rfl⟩ (sk_recv hK hw kdn_0 (kd_in kdn_0) (by decide) rfl) (sk_pre hK hw) rfl hl.1 rfl (Nat.le_of_ble_eq_true rfl) (okL_law_5 (496, .invokevirtual 55, 3) (List.mem_of_getElem? (i := 40) rfl)) ⟨Nat.le_of_ble_eq_true rfl, Nat.le_of_ble_eq_true rfl⟩) hw (fun r_496 I_496 H locs hr_r_496 hM hw => ?_)
      refine lv_aload_n hx hb (okL_law_5 (499, .aload_n 2, 1) (List.mem_of_getElem? (i := 41) rfl)) rfl (lv_at hl 2 rfl) ?_
      refine lv_aload_n hx hb (okL_law_5 (500, .aload_n 0, 1) (List.mem_of_getElem? (i := 42) rfl)) rfl (lv_at hl 0 rfl) ?_
      refine lv_iload_n hx hb (okL_law_5 (501, .iload_n 3, 1) (List.mem_of_getElem? (i := 43) rfl)) rfl (lv_at hl 3 rfl) ?_
      refine lv_iconst (v := iI 1) hx hb (okL_law_5 (502, .iconst 1, 1) (List.mem_of_getElem? (i := 44) rfl)) rfl ?_
      refine sk_iadd hx hb (okL_law_5 (503, .iadd, 1) (List.mem_of_getElem? (i := 45) rfl)) ?_
      obtain ⟨hi51, hM⟩ := hM
      refine sk_sld hx hb hX hbl hbA hw.2 hXv hLL hi51 (okL_law_5 (504, .iaload, 1) (List.mem_of_getElem? (i := 46) rfl)) ?_
      refine lv_aload_n hx hb (okL_law_5 (505, .aload_n 0, 1) (List.mem_of_getElem? (i := 47) rfl)) rfl (lv_at hl 0 rfl) ?_
      refine lv_iload_n hx hb (okL_law_5 (506, .iload_n 3, 1) (List.mem_of_getElem? (i := 48) rfl)) rfl (lv_at hl 3 rfl) ?_
      refine lv_iconst (v := iI 2) hx hb (okL_law_5 (507, .iconst 2, 1) (List.mem_of_getElem? (i := 49) rfl)) rfl ?_
      refine sk_iadd hx hb (okL_law_6 (508, .iadd, 1) (List.mem_of_getElem? (i := 0) rfl)) ?_
      obtain ⟨hi52, hM⟩ := hM
      refine sk_sld hx hb hX hbl hbA hw.2 hXv hLL hi52 (okL_law_6 (509, .iaload, 1) (List.mem_of_getElem? (i := 1) rfl)) ?_
      refine sk_ci (sk_runV (a := 158) (C := RX12) (As := [.int (iI (X (v3 + 1))), .int (iI (X (v3 + 2)))]) (rest := [.int (iI r_496)]) S (c_Mo_delay l G (hXr _) (hXr _) hM) sk_blind gL_law_X12_delay rfl hdX12_delay ⟨⟨rfl, rfl⟩, Nat.le_of_ble_eq_true rfl, Nat.le_of_ble_eq_true rfl⟩ (sk_recv hK hw kdn_158 (kd_in kdn_158) (by decide) rfl) (sk_pre hK hw) rfl hl.1 rfl (Nat.le_of_ble_eq_true rfl) (okL_law_6 (510, .invokevirtual 59, 3) (List.mem_of_getElem? (i := 2) rfl)) ⟨Nat.le_of_ble_eq_true rfl, Nat.le_of_ble_eq_true rfl⟩) hw (fun r_510 I_510 H locs hr_r_510 hM hw => ?_)
      refine sk_icmp_eq (tgt := 1008) hx hb hr_r_496 hr_r_510 (okL_law_6 (513, .if_icmp .eq 495, 3) (List.mem_of_getElem? (i := 3) rfl)) (by decide) (fun c513 => ?_) (fun c513 => ?_)
      · have hM := hM.1 c513
        obtain ⟨hr53, hM⟩ := hM
        obtain ⟨v3_1008, ev3_1008⟩ : ∃ y : Int, y = v3 + 6 := ⟨_, rfl⟩
        have hM := hM v3_1008 ev3_1008
        have hr_v3_1008 : rI v3_1008 := by rw [ev3_1008]; exact hr53
        refine lv_iinc (v := iI v3_1008) (lv' := [(3, .int (iI v3_1008)), (0, .ref b), (1, .ref (sk_ad G 0)), (2, .ref (sk_ad G 158))]) hx hb (okL_law_13 (1008, .iinc 3 6, 3) (List.mem_of_getElem? (i := 26) rfl)) hl (k := 3) rfl (by rw [ev3_1008]; exact iI_add _ _) (by decide) rfl (fun ls hl => ?_)
        refine lv_goto (tgt := 18) hx hb (okL_law_13 (1011, .goto (-993), 3) (List.mem_of_getElem? (i := 27) rfl)) (by decide) ?_
        exact (hX_18 v3_1008 I_510).1 hM hr_v3_1008 H locs ls hw (lv_sub hl [1, 2, 3, 0] rfl)
      · have hM := hM.2 c513
        refine lv_iconst (v := iI 0) hx hb (okL_law_6 (516, .iconst 0, 1) (List.mem_of_getElem? (i := 4) rfl)) rfl ?_
        exact hM.elim
    · have hM := hM.2.2.2.2.2.2.2.2.2.2.2.1 c33
      refine sk_tabIn (tgt := 518) (off := 485) hx hb (rI_of _) (by rw [c33]; decide) (by rw [c33]; rfl) (okL_law_0 (33, .tableswitch 975 0 29 #[135, 178, 241, 254, 297, 320, 343, 386, 429, 452, 485, 518, 541, 554, 567, 620, 653, 676, 689, 712, 725, 748, 771, 784, 827, 840, 903, 916, 939, 952], 135) (List.mem_of_getElem? (i := 21) rfl)) (by decide) ?_
      refine lv_aload_n hx hb (okL_law_6 (518, .aload_n 1, 1) (List.mem_of_getElem? (i := 6) rfl)) rfl (lv_at hl 1 rfl) ?_
      refine lv_aload_n hx hb (okL_law_6 (519, .aload_n 0, 1) (List.mem_of_getElem? (i := 7) rfl)) rfl (lv_at hl 0 rfl) ?_
      refine lv_iload_n hx hb (okL_law_6 (520, .iload_n 3, 1) (List.mem_of_getElem? (i := 8) rfl)) rfl (lv_at hl 3 rfl) ?_
      refine lv_iconst (v := iI 1) hx hb (okL_law_6 (521, .iconst 1, 1) (List.mem_of_getElem? (i := 9) rfl)) rfl ?_
      refine sk_iadd hx hb (okL_law_6 (522, .iadd, 1) (List.mem_of_getElem? (i := 10) rfl)) ?_
      obtain ⟨hi54, hM⟩ := hM
      refine sk_sld hx hb hX hbl hbA hw.2 hXv hLL hi54 (okL_law_6 (523, .iaload, 1) (List.mem_of_getElem? (i := 11) rfl)) ?_
      refine lv_aload_n hx hb (okL_law_6 (524, .aload_n 0, 1) (List.mem_of_getElem? (i := 12) rfl)) rfl (lv_at hl 0 rfl) ?_
      refine lv_iload_n hx hb (okL_law_6 (525, .iload_n 3, 1) (List.mem_of_getElem? (i := 13) rfl)) rfl (lv_at hl 3 rfl) ?_
      refine lv_iconst (v := iI 2) hx hb (okL_law_6 (526, .iconst 2, 1) (List.mem_of_getElem? (i := 14) rfl)) rfl ?_
      refine sk_iadd hx hb (okL_law_6 (527, .iadd, 1) (List.mem_of_getElem? (i := 15) rfl)) ?_
      obtain ⟨hi55, hM⟩ := hM
      refine sk_sld hx hb hX hbl hbA hw.2 hXv hLL hi55 (okL_law_6 (528, .iaload, 1) (List.mem_of_getElem? (i := 16) rfl)) ?_
      refine sk_ci (sk_runV (a := 0) (C := RX11) (As := [.int (iI (X (v3 + 1))), .int (iI (X (v3 + 2)))]) (rest := []) S (c_Sky_clash l G (hXr _) (hXr _) hM) sk_blind gL_law_X11_clash rfl hdX11_clash ⟨⟨rfl, rfl⟩, Nat.le_of_ble_eq_true rfl, Nat.le_of_ble_eq_true rfl⟩ (sk_recv hK hw kdn_0 (kd_in kdn_0) (by decide) rfl) (sk_pre hK hw) rfl hl.1 rfl (Nat.le_of_ble_eq_true rfl) (okL_law_6 (529, .invokevirtual 60, 3) (List.mem_of_getElem? (i := 17) rfl)) ⟨Nat.le_of_ble_eq_true rfl, Nat.le_of_ble_eq_true rfl⟩) hw (fun r_529 I_529 H locs hr_r_529 hM hw => ?_)
      refine lv_aload_n hx hb (okL_law_6 (532, .aload_n 2, 1) (List.mem_of_getElem? (i := 18) rfl)) rfl (lv_at hl 2 rfl) ?_
      refine lv_aload_n hx hb (okL_law_6 (533, .aload_n 0, 1) (List.mem_of_getElem? (i := 19) rfl)) rfl (lv_at hl 0 rfl) ?_
      refine lv_iload_n hx hb (okL_law_6 (534, .iload_n 3, 1) (List.mem_of_getElem? (i := 20) rfl)) rfl (lv_at hl 3 rfl) ?_
      refine lv_iconst (v := iI 1) hx hb (okL_law_6 (535, .iconst 1, 1) (List.mem_of_getElem? (i := 21) rfl)) rfl ?_
      refine sk_iadd hx hb (okL_law_6 (536, .iadd, 1) (List.mem_of_getElem? (i := 22) rfl)) ?_
      obtain ⟨hi56, hM⟩ := hM
      refine sk_sld hx hb hX hbl hbA hw.2 hXv hLL hi56 (okL_law_6 (537, .iaload, 1) (List.mem_of_getElem? (i := 23) rfl)) ?_
      refine lv_aload_n hx hb (okL_law_6 (538, .aload_n 0, 1) (List.mem_of_getElem? (i := 24) rfl)) rfl (lv_at hl 0 rfl) ?_
      refine lv_iload_n hx hb (okL_law_6 (539, .iload_n 3, 1) (List.mem_of_getElem? (i := 25) rfl)) rfl (lv_at hl 3 rfl) ?_
      refine lv_iconst (v := iI 2) hx hb (okL_law_6 (540, .iconst 2, 1) (List.mem_of_getElem? (i := 26) rfl)) rfl ?_
      refine sk_iadd hx hb (okL_law_6 (541, .iadd, 1) (List.mem_of_getElem? (i := 27) rfl)) ?_
      obtain ⟨hi57, hM⟩ := hM
      refine sk_sld hx hb hX hbl hbA hw.2 hXv hLL hi57 (okL_law_6 (542, .iaload, 1) (List.mem_of_getElem? (i := 28) rfl)) ?_
      refine sk_ci (sk_runV (a := 158) (C := RX12) (As := [.int (iI (X (v3 + 1))), .int (iI (X (v3 + 2)))]) (rest := [.int (iI r_529)]) S (c_Mo_clash_ l G (hXr _) (hXr _) hM) sk_blind gL_law_X12_clash_ rfl hdX12_clash_ ⟨⟨rfl, rfl⟩, Nat.le_of_ble_eq_true rfl, Nat.le_of_ble_eq_true rfl⟩ (sk_recv hK hw kdn_158 (kd_in kdn_158) (by decide) rfl) (sk_pre hK hw) rfl hl.1 rfl (Nat.le_of_ble_eq_true rfl) (okL_law_6 (543, .invokevirtual 63, 3) (List.mem_of_getElem? (i := 29) rfl)) ⟨Nat.le_of_ble_eq_true rfl, Nat.le_of_ble_eq_true rfl⟩) hw (fun r_543 I_543 H locs hr_r_543 hM hw => ?_)
      refine sk_icmp_eq (tgt := 1008) hx hb hr_r_529 hr_r_543 (okL_law_6 (546, .if_icmp .eq 462, 3) (List.mem_of_getElem? (i := 30) rfl)) (by decide) (fun c546 => ?_) (fun c546 => ?_)
      · have hM := hM.1 c546
        obtain ⟨hr58, hM⟩ := hM
        obtain ⟨v3_1008, ev3_1008⟩ : ∃ y : Int, y = v3 + 6 := ⟨_, rfl⟩
        have hM := hM v3_1008 ev3_1008
        have hr_v3_1008 : rI v3_1008 := by rw [ev3_1008]; exact hr58
        refine lv_iinc (v := iI v3_1008) (lv' := [(3, .int (iI v3_1008)), (0, .ref b), (1, .ref (sk_ad G 0)), (2, .ref (sk_ad G 158))]) hx hb (okL_law_13 (1008, .iinc 3 6, 3) (List.mem_of_getElem? (i := 26) rfl)) hl (k := 3) rfl (by rw [ev3_1008]; exact iI_add _ _) (by decide) rfl (fun ls hl => ?_)
        refine lv_goto (tgt := 18) hx hb (okL_law_13 (1011, .goto (-993), 3) (List.mem_of_getElem? (i := 27) rfl)) (by decide) ?_
        exact (hX_18 v3_1008 I_543).1 hM hr_v3_1008 H locs ls hw (lv_sub hl [1, 2, 3, 0] rfl)
      · have hM := hM.2 c546
        refine lv_iconst (v := iI 0) hx hb (okL_law_6 (549, .iconst 0, 1) (List.mem_of_getElem? (i := 31) rfl)) rfl ?_
        exact hM.elim
    · have hM := hM.2.2.2.2.2.2.2.2.2.2.2.2.1 c33
      refine sk_tabIn (tgt := 551) (off := 518) hx hb (rI_of _) (by rw [c33]; decide) (by rw [c33]; rfl) (okL_law_0 (33, .tableswitch 975 0 29 #[135, 178, 241, 254, 297, 320, 343, 386, 429, 452, 485, 518, 541, 554, 567, 620, 653, 676, 689, 712, 725, 748, 771, 784, 827, 840, 903, 916, 939, 952], 135) (List.mem_of_getElem? (i := 21) rfl)) (by decide) ?_
      refine lv_aload_n hx hb (okL_law_6 (551, .aload_n 1, 1) (List.mem_of_getElem? (i := 33) rfl)) rfl (lv_at hl 1 rfl) ?_
      refine lv_aload_n hx hb (okL_law_6 (552, .aload_n 0, 1) (List.mem_of_getElem? (i := 34) rfl)) rfl (lv_at hl 0 rfl) ?_
      refine lv_iload_n hx hb (okL_law_6 (553, .iload_n 3, 1) (List.mem_of_getElem? (i := 35) rfl)) rfl (lv_at hl 3 rfl) ?_
      refine lv_iconst (v := iI 1) hx hb (okL_law_6 (554, .iconst 1, 1) (List.mem_of_getElem? (i := 36) rfl)) rfl ?_
      refine sk_iadd hx hb (okL_law_6 (555, .iadd, 1) (List.mem_of_getElem? (i := 37) rfl)) ?_
      obtain ⟨hi59, hM⟩ := hM
      refine sk_sld hx hb hX hbl hbA hw.2 hXv hLL hi59 (okL_law_6 (556, .iaload, 1) (List.mem_of_getElem? (i := 38) rfl)) ?_
      refine sk_ci (sk_runV (a := 0) (C := RX11) (As := [.int (iI (X (v3 + 1)))]) (rest := []) S (c_Sky_enters l G (hXr _) hM) sk_blind gL_law_X11_enters rfl hdX11_enters ⟨⟨rfl, rfl⟩, Nat.le_of_ble_eq_true rfl, Nat.le_of_ble_eq_true rfl⟩ (sk_recv hK hw kdn_0 (kd_in kdn_0) (by decide) rfl) (sk_pre hK hw) rfl hl.1 rfl (Nat.le_of_ble_eq_true rfl) (okL_law_6 (557, .invokevirtual 64, 3) (List.mem_of_getElem? (i := 39) rfl)) ⟨Nat.le_of_ble_eq_true rfl, Nat.le_of_ble_eq_true rfl⟩) hw (fun r_557 I_557 H locs hr_r_557 hM hw => ?_)
      refine lv_aload_n hx hb (okL_law_6 (560, .aload_n 2, 1) (List.mem_of_getElem? (i := 40) rfl)) rfl (lv_at hl 2 rfl) ?_
      refine lv_aload_n hx hb (okL_law_6 (561, .aload_n 0, 1) (List.mem_of_getElem? (i := 41) rfl)) rfl (lv_at hl 0 rfl) ?_
      refine lv_iload_n hx hb (okL_law_6 (562, .iload_n 3, 1) (List.mem_of_getElem? (i := 42) rfl)) rfl (lv_at hl 3 rfl) ?_
      refine lv_iconst (v := iI 1) hx hb (okL_law_6 (563, .iconst 1, 1) (List.mem_of_getElem? (i := 43) rfl)) rfl ?_
      refine sk_iadd hx hb (okL_law_6 (564, .iadd, 1) (List.mem_of_getElem? (i := 44) rfl)) ?_
      obtain ⟨hi60, hM⟩ := hM
      refine sk_sld hx hb hX hbl hbA hw.2 hXv hLL hi60 (okL_law_6 (565, .iaload, 1) (List.mem_of_getElem? (i := 45) rfl)) ?_
      refine sk_ci (sk_runV (a := 158) (C := RX12) (As := [.int (iI (X (v3 + 1)))]) (rest := [.int (iI r_557)]) S (c_Mo_enters_ l G (hXr _) hM) sk_blind gL_law_X12_enters_ rfl hdX12_enters_ ⟨⟨rfl, rfl⟩, Nat.le_of_ble_eq_true rfl, Nat.le_of_ble_eq_true rfl⟩ (sk_recv hK hw kdn_158 (kd_in kdn_158) (by decide) rfl) (sk_pre hK hw) rfl hl.1 rfl (Nat.le_of_ble_eq_true rfl) (okL_law_6 (566, .invokevirtual 67, 3) (List.mem_of_getElem? (i := 46) rfl)) ⟨Nat.le_of_ble_eq_true rfl, Nat.le_of_ble_eq_true rfl⟩) hw (fun r_566 I_566 H locs hr_r_566 hM hw => ?_)
      refine sk_icmp_eq (tgt := 1008) hx hb hr_r_557 hr_r_566 (okL_law_6 (569, .if_icmp .eq 439, 3) (List.mem_of_getElem? (i := 47) rfl)) (by decide) (fun c569 => ?_) (fun c569 => ?_)
      · have hM := hM.1 c569
        obtain ⟨hr61, hM⟩ := hM
        obtain ⟨v3_1008, ev3_1008⟩ : ∃ y : Int, y = v3 + 6 := ⟨_, rfl⟩
        have hM := hM v3_1008 ev3_1008
        have hr_v3_1008 : rI v3_1008 := by rw [ev3_1008]; exact hr61
        refine lv_iinc (v := iI v3_1008) (lv' := [(3, .int (iI v3_1008)), (0, .ref b), (1, .ref (sk_ad G 0)), (2, .ref (sk_ad G 158))]) hx hb (okL_law_13 (1008, .iinc 3 6, 3) (List.mem_of_getElem? (i := 26) rfl)) hl (k := 3) rfl (by rw [ev3_1008]; exact iI_add _ _) (by decide) rfl (fun ls hl => ?_)
        refine lv_goto (tgt := 18) hx hb (okL_law_13 (1011, .goto (-993), 3) (List.mem_of_getElem? (i := 27) rfl)) (by decide) ?_
        exact (hX_18 v3_1008 I_566).1 hM hr_v3_1008 H locs ls hw (lv_sub hl [1, 2, 3, 0] rfl)
      · have hM := hM.2 c569
        refine lv_iconst (v := iI 0) hx hb (okL_law_6 (572, .iconst 0, 1) (List.mem_of_getElem? (i := 48) rfl)) rfl ?_
        exact hM.elim
    · have hM := hM.2.2.2.2.2.2.2.2.2.2.2.2.2.1 c33
      refine sk_tabIn (tgt := 574) (off := 541) hx hb (rI_of _) (by rw [c33]; decide) (by rw [c33]; rfl) (okL_law_0 (33, .tableswitch 975 0 29 #[135, 178, 241, 254, 297, 320, 343, 386, 429, 452, 485, 518, 541, 554, 567, 620, 653, 676, 689, 712, 725, 748, 771, 784, 827, 840, 903, 916, 939, 952], 135) (List.mem_of_getElem? (i := 21) rfl)) (by decide) ?_
      refine lv_aload_n hx hb (okL_law_7 (574, .aload_n 1, 1) (List.mem_of_getElem? (i := 0) rfl)) rfl (lv_at hl 1 rfl) ?_
      refine sk_ci (sk_runV (a := 0) (C := RX11) (As := []) (rest := []) S (c_Sky_clean l G hM) sk_blind gL_law_X11_clean rfl hdX11_clean ⟨⟨rfl, rfl⟩, Nat.le_of_ble_eq_true rfl, Nat.le_of_ble_eq_true rfl⟩ (sk_recv hK hw kdn_0 (kd_in kdn_0) (by decide) rfl) (sk_pre hK hw) rfl hl.1 rfl (Nat.le_of_ble_eq_true rfl) (okL_law_7 (575, .invokevirtual 68, 3) (List.mem_of_getElem? (i := 1) rfl)) ⟨Nat.le_of_ble_eq_true rfl, Nat.le_of_ble_eq_true rfl⟩) hw (fun r_575 I_575 H locs hr_r_575 hM hw => ?_)
      refine lv_aload_n hx hb (okL_law_7 (578, .aload_n 2, 1) (List.mem_of_getElem? (i := 2) rfl)) rfl (lv_at hl 2 rfl) ?_
      refine sk_ci (sk_runV (a := 158) (C := RX12) (As := []) (rest := [.int (iI r_575)]) S (c_Mo_clean l G hM) sk_blind gL_law_X12_clean rfl hdX12_clean ⟨⟨rfl, rfl⟩, Nat.le_of_ble_eq_true rfl, Nat.le_of_ble_eq_true rfl⟩ (sk_recv hK hw kdn_158 (kd_in kdn_158) (by decide) rfl) (sk_pre hK hw) rfl hl.1 rfl (Nat.le_of_ble_eq_true rfl) (okL_law_7 (579, .invokevirtual 71, 3) (List.mem_of_getElem? (i := 3) rfl)) ⟨Nat.le_of_ble_eq_true rfl, Nat.le_of_ble_eq_true rfl⟩) hw (fun r_579 I_579 H locs hr_r_579 hM hw => ?_)
      refine sk_icmp_eq (tgt := 1008) hx hb hr_r_575 hr_r_579 (okL_law_7 (582, .if_icmp .eq 426, 3) (List.mem_of_getElem? (i := 4) rfl)) (by decide) (fun c582 => ?_) (fun c582 => ?_)
      · have hM := hM.1 c582
        obtain ⟨hr62, hM⟩ := hM
        obtain ⟨v3_1008, ev3_1008⟩ : ∃ y : Int, y = v3 + 6 := ⟨_, rfl⟩
        have hM := hM v3_1008 ev3_1008
        have hr_v3_1008 : rI v3_1008 := by rw [ev3_1008]; exact hr62
        refine lv_iinc (v := iI v3_1008) (lv' := [(3, .int (iI v3_1008)), (0, .ref b), (1, .ref (sk_ad G 0)), (2, .ref (sk_ad G 158))]) hx hb (okL_law_13 (1008, .iinc 3 6, 3) (List.mem_of_getElem? (i := 26) rfl)) hl (k := 3) rfl (by rw [ev3_1008]; exact iI_add _ _) (by decide) rfl (fun ls hl => ?_)
        refine lv_goto (tgt := 18) hx hb (okL_law_13 (1011, .goto (-993), 3) (List.mem_of_getElem? (i := 27) rfl)) (by decide) ?_
        exact (hX_18 v3_1008 I_579).1 hM hr_v3_1008 H locs ls hw (lv_sub hl [1, 2, 3, 0] rfl)
      · have hM := hM.2 c582
        refine lv_iconst (v := iI 0) hx hb (okL_law_7 (585, .iconst 0, 1) (List.mem_of_getElem? (i := 5) rfl)) rfl ?_
        exact hM.elim
    · have hM := hM.2.2.2.2.2.2.2.2.2.2.2.2.2.2.1 c33
      refine sk_tabIn (tgt := 587) (off := 554) hx hb (rI_of _) (by rw [c33]; decide) (by rw [c33]; rfl) (okL_law_0 (33, .tableswitch 975 0 29 #[135, 178, 241, 254, 297, 320, 343, 386, 429, 452, 485, 518, 541, 554, 567, 620, 653, 676, 689, 712, 725, 748, 771, 784, 827, 840, 903, 916, 939, 952], 135) (List.mem_of_getElem? (i := 21) rfl)) (by decide) ?_
      refine lv_aload_n hx hb (okL_law_7 (587, .aload_n 1, 1) (List.mem_of_getElem? (i := 7) rfl)) rfl (lv_at hl 1 rfl) ?_
      refine sk_ci (sk_runV (a := 0) (C := RX11) (As := []) (rest := []) S (c_Sky_part l G hM) sk_blind gL_law_X11_part rfl hdX11_part ⟨⟨rfl, rfl⟩, Nat.le_of_ble_eq_true rfl, Nat.le_of_ble_eq_true rfl⟩ (sk_recv hK hw kdn_0 (kd_in kdn_0) (by decide) rfl) (sk_pre hK hw) rfl hl.1 rfl (Nat.le_of_ble_eq_true rfl) (okL_law_7 (588, .invokevirtual 72, 3) (List.mem_of_getElem? (i := 8) rfl)) ⟨Nat.le_of_ble_eq_true rfl, Nat.le_of_ble_eq_true rfl⟩) hw (fun r_588 I_588 H locs hr_r_588 hM hw => ?_)
      refine lv_aload_n hx hb (okL_law_7 (591, .aload_n 2, 1) (List.mem_of_getElem? (i := 9) rfl)) rfl (lv_at hl 2 rfl) ?_
      refine sk_ci (sk_runV (a := 158) (C := RX12) (As := []) (rest := [.int (iI r_588)]) S (c_Mo_part l G hM) sk_blind gL_law_X12_part rfl hdX12_part ⟨⟨rfl, rfl⟩, Nat.le_of_ble_eq_true rfl, Nat.le_of_ble_eq_true rfl⟩ (sk_recv hK hw kdn_158 (kd_in kdn_158) (by decide) rfl) (sk_pre hK hw) rfl hl.1 rfl (Nat.le_of_ble_eq_true rfl) (okL_law_7 (592, .invokevirtual 75, 3) (List.mem_of_getElem? (i := 10) rfl)) ⟨Nat.le_of_ble_eq_true rfl, Nat.le_of_ble_eq_true rfl⟩) hw (fun r_592 I_592 H locs hr_r_592 hM hw => ?_)
      refine sk_icmp_eq (tgt := 1008) hx hb hr_r_588 hr_r_592 (okL_law_7 (595, .if_icmp .eq 413, 3) (List.mem_of_getElem? (i := 11) rfl)) (by decide) (fun c595 => ?_) (fun c595 => ?_)
      · have hM := hM.1 c595
        obtain ⟨hr63, hM⟩ := hM
        obtain ⟨v3_1008, ev3_1008⟩ : ∃ y : Int, y = v3 + 6 := ⟨_, rfl⟩
        have hM := hM v3_1008 ev3_1008
        have hr_v3_1008 : rI v3_1008 := by rw [ev3_1008]; exact hr63
        refine lv_iinc (v := iI v3_1008) (lv' := [(3, .int (iI v3_1008)), (0, .ref b), (1, .ref (sk_ad G 0)), (2, .ref (sk_ad G 158))]) hx hb (okL_law_13 (1008, .iinc 3 6, 3) (List.mem_of_getElem? (i := 26) rfl)) hl (k := 3) rfl (by rw [ev3_1008]; exact iI_add _ _) (by decide) rfl (fun ls hl => ?_)
        refine lv_goto (tgt := 18) hx hb (okL_law_13 (1011, .goto (-993), 3) (List.mem_of_getElem? (i := 27) rfl)) (by decide) ?_
        exact (hX_18 v3_1008 I_592).1 hM hr_v3_1008 H locs ls hw (lv_sub hl [1, 2, 3, 0] rfl)
      · have hM := hM.2 c595
        refine lv_iconst (v := iI 0) hx hb (okL_law_7 (598, .iconst 0, 1) (List.mem_of_getElem? (i := 12) rfl)) rfl ?_
        exact hM.elim
    · have hM := hM.2.2.2.2.2.2.2.2.2.2.2.2.2.2.2.1 c33
      refine sk_tabIn (tgt := 600) (off := 567) hx hb (rI_of _) (by rw [c33]; decide) (by rw [c33]; rfl) (okL_law_0 (33, .tableswitch 975 0 29 #[135, 178, 241, 254, 297, 320, 343, 386, 429, 452, 485, 518, 541, 554, 567, 620, 653, 676, 689, 712, 725, 748, 771, 784, 827, 840, 903, 916, 939, 952], 135) (List.mem_of_getElem? (i := 21) rfl)) (by decide) ?_
      refine lv_aload_n hx hb (okL_law_7 (600, .aload_n 1, 1) (List.mem_of_getElem? (i := 14) rfl)) rfl (lv_at hl 1 rfl) ?_
      refine lv_aload_n hx hb (okL_law_7 (601, .aload_n 0, 1) (List.mem_of_getElem? (i := 15) rfl)) rfl (lv_at hl 0 rfl) ?_
      refine lv_iload_n hx hb (okL_law_7 (602, .iload_n 3, 1) (List.mem_of_getElem? (i := 16) rfl)) rfl (lv_at hl 3 rfl) ?_
      refine lv_iconst (v := iI 1) hx hb (okL_law_7 (603, .iconst 1, 1) (List.mem_of_getElem? (i := 17) rfl)) rfl ?_
      refine sk_iadd hx hb (okL_law_7 (604, .iadd, 1) (List.mem_of_getElem? (i := 18) rfl)) ?_
      obtain ⟨hi64, hM⟩ := hM
      refine sk_sld hx hb hX hbl hbA hw.2 hXv hLL hi64 (okL_law_7 (605, .iaload, 1) (List.mem_of_getElem? (i := 19) rfl)) ?_
      refine lv_aload_n hx hb (okL_law_7 (606, .aload_n 0, 1) (List.mem_of_getElem? (i := 20) rfl)) rfl (lv_at hl 0 rfl) ?_
      refine lv_iload_n hx hb (okL_law_7 (607, .iload_n 3, 1) (List.mem_of_getElem? (i := 21) rfl)) rfl (lv_at hl 3 rfl) ?_
      refine lv_iconst (v := iI 2) hx hb (okL_law_7 (608, .iconst 2, 1) (List.mem_of_getElem? (i := 22) rfl)) rfl ?_
      refine sk_iadd hx hb (okL_law_7 (609, .iadd, 1) (List.mem_of_getElem? (i := 23) rfl)) ?_
      obtain ⟨hi65, hM⟩ := hM
      refine sk_sld hx hb hX hbl hbA hw.2 hXv hLL hi65 (okL_law_7 (610, .iaload, 1) (List.mem_of_getElem? (i := 24) rfl)) ?_
      refine lv_aload_n hx hb (okL_law_7 (611, .aload_n 0, 1) (List.mem_of_getElem? (i := 25) rfl)) rfl (lv_at hl 0 rfl) ?_
      refine lv_iload_n hx hb (okL_law_7 (612, .iload_n 3, 1) (List.mem_of_getElem? (i := 26) rfl)) rfl (lv_at hl 3 rfl) ?_
      refine lv_iconst (v := iI 3) hx hb (okL_law_7 (613, .iconst 3, 1) (List.mem_of_getElem? (i := 27) rfl)) rfl ?_
      refine sk_iadd hx hb (okL_law_7 (614, .iadd, 1) (List.mem_of_getElem? (i := 28) rfl)) ?_
      obtain ⟨hi66, hM⟩ := hM
      refine sk_sld hx hb hX hbl hbA hw.2 hXv hLL hi66 (okL_law_7 (615, .iaload, 1) (List.mem_of_getElem? (i := 29) rfl)) ?_
      refine lv_aload_n hx hb (okL_law_7 (616, .aload_n 0, 1) (List.mem_of_getElem? (i := 30) rfl)) rfl (lv_at hl 0 rfl) ?_
      refine lv_iload_n hx hb (okL_law_7 (617, .iload_n 3, 1) (List.mem_of_getElem? (i := 31) rfl)) rfl (lv_at hl 3 rfl) ?_
      refine lv_iconst (v := iI 4) hx hb (okL_law_7 (618, .iconst 4, 1) (List.mem_of_getElem? (i := 32) rfl)) rfl ?_
      refine sk_iadd hx hb (okL_law_7 (619, .iadd, 1) (List.mem_of_getElem? (i := 33) rfl)) ?_
      obtain ⟨hi67, hM⟩ := hM
      refine sk_sld hx hb hX hbl hbA hw.2 hXv hLL hi67 (okL_law_7 (620, .iaload, 1) (List.mem_of_getElem? (i := 34) rfl)) ?_
      refine sk_ci (sk_runV (a := 0) (C := RX11) (As := [.int (iI (X (v3 + 1))), .int (iI (X (v3 + 2))), .int (iI (X (v3 + 3))), .int (iI (X (v3 + 4)))]) (rest := []) S (c_Sky_scene l G (hXr _) (hXr _) (hXr _) (hXr _) hM) sk_blind gL_law_X11_scene rfl hdX11_scene ⟨⟨rfl, rfl⟩, Nat.le_of_ble_eq_true rfl, Nat.le_of_ble_eq_true rfl⟩ (sk_recv hK hw kdn_0 (kd_in kdn_0) (by decide) rfl) (sk_pre hK hw) rfl hl.1 rfl (Nat.le_of_ble_eq_true rfl) (okL_law_7 (621, .invokevirtual 76, 3) (List.mem_of_getElem? (i := 35) rfl)) ⟨Nat.le_of_ble_eq_true rfl, Nat.le_of_ble_eq_true rfl⟩) hw (fun r_621 I_621 H locs hr_r_621 hM hw => ?_)
      refine lv_aload_n hx hb (okL_law_7 (624, .aload_n 2, 1) (List.mem_of_getElem? (i := 36) rfl)) rfl (lv_at hl 2 rfl) ?_
      refine lv_aload_n hx hb (okL_law_7 (625, .aload_n 0, 1) (List.mem_of_getElem? (i := 37) rfl)) rfl (lv_at hl 0 rfl) ?_
      refine lv_iload_n hx hb (okL_law_7 (626, .iload_n 3, 1) (List.mem_of_getElem? (i := 38) rfl)) rfl (lv_at hl 3 rfl) ?_
      refine lv_iconst (v := iI 1) hx hb (okL_law_7 (627, .iconst 1, 1) (List.mem_of_getElem? (i := 39) rfl)) rfl ?_
      refine sk_iadd hx hb (okL_law_7 (628, .iadd, 1) (List.mem_of_getElem? (i := 40) rfl)) ?_
      obtain ⟨hi68, hM⟩ := hM
      refine sk_sld hx hb hX hbl hbA hw.2 hXv hLL hi68 (okL_law_7 (629, .iaload, 1) (List.mem_of_getElem? (i := 41) rfl)) ?_
      refine lv_aload_n hx hb (okL_law_7 (630, .aload_n 0, 1) (List.mem_of_getElem? (i := 42) rfl)) rfl (lv_at hl 0 rfl) ?_
      refine lv_iload_n hx hb (okL_law_7 (631, .iload_n 3, 1) (List.mem_of_getElem? (i := 43) rfl)) rfl (lv_at hl 3 rfl) ?_
      refine lv_iconst (v := iI 2) hx hb (okL_law_7 (632, .iconst 2, 1) (List.mem_of_getElem? (i := 44) rfl)) rfl ?_
      refine sk_iadd hx hb (okL_law_7 (633, .iadd, 1) (List.mem_of_getElem? (i := 45) rfl)) ?_
      obtain ⟨hi69, hM⟩ := hM
      refine sk_sld hx hb hX hbl hbA hw.2 hXv hLL hi69 (okL_law_7 (634, .iaload, 1) (List.mem_of_getElem? (i := 46) rfl)) ?_
      refine lv_aload_n hx hb (okL_law_7 (635, .aload_n 0, 1) (List.mem_of_getElem? (i := 47) rfl)) rfl (lv_at hl 0 rfl) ?_
      refine lv_iload_n hx hb (okL_law_7 (636, .iload_n 3, 1) (List.mem_of_getElem? (i := 48) rfl)) rfl (lv_at hl 3 rfl) ?_
      refine lv_iconst (v := iI 3) hx hb (okL_law_7 (637, .iconst 3, 1) (List.mem_of_getElem? (i := 49) rfl)) rfl ?_
      refine sk_iadd hx hb (okL_law_8 (638, .iadd, 1) (List.mem_of_getElem? (i := 0) rfl)) ?_
      obtain ⟨hi70, hM⟩ := hM
      refine sk_sld hx hb hX hbl hbA hw.2 hXv hLL hi70 (okL_law_8 (639, .iaload, 1) (List.mem_of_getElem? (i := 1) rfl)) ?_
      refine lv_aload_n hx hb (okL_law_8 (640, .aload_n 0, 1) (List.mem_of_getElem? (i := 2) rfl)) rfl (lv_at hl 0 rfl) ?_
      refine lv_iload_n hx hb (okL_law_8 (641, .iload_n 3, 1) (List.mem_of_getElem? (i := 3) rfl)) rfl (lv_at hl 3 rfl) ?_
      refine lv_iconst (v := iI 4) hx hb (okL_law_8 (642, .iconst 4, 1) (List.mem_of_getElem? (i := 4) rfl)) rfl ?_
      refine sk_iadd hx hb (okL_law_8 (643, .iadd, 1) (List.mem_of_getElem? (i := 5) rfl)) ?_
      obtain ⟨hi71, hM⟩ := hM
      refine sk_sld hx hb hX hbl hbA hw.2 hXv hLL hi71 (okL_law_8 (644, .iaload, 1) (List.mem_of_getElem? (i := 6) rfl)) ?_
      refine sk_ci (sk_runV (a := 158) (C := RX12) (As := [.int (iI (X (v3 + 1))), .int (iI (X (v3 + 2))), .int (iI (X (v3 + 3))), .int (iI (X (v3 + 4)))]) (rest := [.int (iI r_621)]) S (c_Mo_scene l G (hXr _) (hXr _) (hXr _) (hXr _) hM) sk_blind gL_law_X12_scene rfl hdX12_scene ⟨⟨rfl, rfl⟩, Nat.le_of_ble_eq_true rfl, Nat.le_of_ble_eq_true rfl⟩ (sk_recv hK hw kdn_158 (kd_in kdn_158) (by decide) rfl) (sk_pre hK hw) rfl hl.1 rfl (Nat.le_of_ble_eq_true rfl) (okL_law_8 (645, .invokevirtual 80, 3) (List.mem_of_getElem? (i := 7) rfl)) ⟨Nat.le_of_ble_eq_true rfl, Nat.le_of_ble_eq_true rfl⟩) hw (fun r_645 I_645 H locs hr_r_645 hM hw => ?_)
      refine sk_icmp_eq (tgt := 1008) hx hb hr_r_621 hr_r_645 (okL_law_8 (648, .if_icmp .eq 360, 3) (List.mem_of_getElem? (i := 8) rfl)) (by decide) (fun c648 => ?_) (fun c648 => ?_)
      · have hM := hM.1 c648
        obtain ⟨hr72, hM⟩ := hM
        obtain ⟨v3_1008, ev3_1008⟩ : ∃ y : Int, y = v3 + 6 := ⟨_, rfl⟩
        have hM := hM v3_1008 ev3_1008
        have hr_v3_1008 : rI v3_1008 := by rw [ev3_1008]; exact hr72
        refine lv_iinc (v := iI v3_1008) (lv' := [(3, .int (iI v3_1008)), (0, .ref b), (1, .ref (sk_ad G 0)), (2, .ref (sk_ad G 158))]) hx hb (okL_law_13 (1008, .iinc 3 6, 3) (List.mem_of_getElem? (i := 26) rfl)) hl (k := 3) rfl (by rw [ev3_1008]; exact iI_add _ _) (by decide) rfl (fun ls hl => ?_)
        refine lv_goto (tgt := 18) hx hb (okL_law_13 (1011, .goto (-993), 3) (List.mem_of_getElem? (i := 27) rfl)) (by decide) ?_
        exact (hX_18 v3_1008 I_645).1 hM hr_v3_1008 H locs ls hw (lv_sub hl [1, 2, 3, 0] rfl)
      · have hM := hM.2 c648
        refine lv_iconst (v := iI 0) hx hb (okL_law_8 (651, .iconst 0, 1) (List.mem_of_getElem? (i := 9) rfl)) rfl ?_
        exact hM.elim
    · have hM := hM.2.2.2.2.2.2.2.2.2.2.2.2.2.2.2.2.1 c33
      refine sk_tabIn (tgt := 653) (off := 620) hx hb (rI_of _) (by rw [c33]; decide) (by rw [c33]; rfl) (okL_law_0 (33, .tableswitch 975 0 29 #[135, 178, 241, 254, 297, 320, 343, 386, 429, 452, 485, 518, 541, 554, 567, 620, 653, 676, 689, 712, 725, 748, 771, 784, 827, 840, 903, 916, 939, 952], 135) (List.mem_of_getElem? (i := 21) rfl)) (by decide) ?_
      refine lv_aload_n hx hb (okL_law_8 (653, .aload_n 1, 1) (List.mem_of_getElem? (i := 11) rfl)) rfl (lv_at hl 1 rfl) ?_
      refine lv_aload_n hx hb (okL_law_8 (654, .aload_n 0, 1) (List.mem_of_getElem? (i := 12) rfl)) rfl (lv_at hl 0 rfl) ?_
      refine lv_iload_n hx hb (okL_law_8 (655, .iload_n 3, 1) (List.mem_of_getElem? (i := 13) rfl)) rfl (lv_at hl 3 rfl) ?_
      refine lv_iconst (v := iI 1) hx hb (okL_law_8 (656, .iconst 1, 1) (List.mem_of_getElem? (i := 14) rfl)) rfl ?_
      refine sk_iadd hx hb (okL_law_8 (657, .iadd, 1) (List.mem_of_getElem? (i := 15) rfl)) ?_
      obtain ⟨hi73, hM⟩ := hM
      refine sk_sld hx hb hX hbl hbA hw.2 hXv hLL hi73 (okL_law_8 (658, .iaload, 1) (List.mem_of_getElem? (i := 16) rfl)) ?_
      refine lv_aload_n hx hb (okL_law_8 (659, .aload_n 0, 1) (List.mem_of_getElem? (i := 17) rfl)) rfl (lv_at hl 0 rfl) ?_
      refine lv_iload_n hx hb (okL_law_8 (660, .iload_n 3, 1) (List.mem_of_getElem? (i := 18) rfl)) rfl (lv_at hl 3 rfl) ?_
      refine lv_iconst (v := iI 2) hx hb (okL_law_8 (661, .iconst 2, 1) (List.mem_of_getElem? (i := 19) rfl)) rfl ?_
      refine sk_iadd hx hb (okL_law_8 (662, .iadd, 1) (List.mem_of_getElem? (i := 20) rfl)) ?_
      obtain ⟨hi74, hM⟩ := hM
      refine sk_sld hx hb hX hbl hbA hw.2 hXv hLL hi74 (okL_law_8 (663, .iaload, 1) (List.mem_of_getElem? (i := 21) rfl)) ?_
      refine sk_ci (sk_runV (a := 0) (C := RX11) (As := [.int (iI (X (v3 + 1))), .int (iI (X (v3 + 2)))]) (rest := []) S (c_Sky_stands l G (hXr _) (hXr _) hM) sk_blind gL_law_X11_stands rfl hdX11_stands ⟨⟨rfl, rfl⟩, Nat.le_of_ble_eq_true rfl, Nat.le_of_ble_eq_true rfl⟩ (sk_recv hK hw kdn_0 (kd_in kdn_0) (by decide) rfl) (sk_pre hK hw) rfl hl.1 rfl (Nat.le_of_ble_eq_true rfl) (okL_law_8 (664, .invokevirtual 81, 3) (List.mem_of_getElem? (i := 22) rfl)) ⟨Nat.le_of_ble_eq_true rfl, Nat.le_of_ble_eq_true rfl⟩) hw (fun r_664 I_664 H locs hr_r_664 hM hw => ?_)
      refine lv_aload_n hx hb (okL_law_8 (667, .aload_n 2, 1) (List.mem_of_getElem? (i := 23) rfl)) rfl (lv_at hl 2 rfl) ?_
      refine lv_aload_n hx hb (okL_law_8 (668, .aload_n 0, 1) (List.mem_of_getElem? (i := 24) rfl)) rfl (lv_at hl 0 rfl) ?_
      refine lv_iload_n hx hb (okL_law_8 (669, .iload_n 3, 1) (List.mem_of_getElem? (i := 25) rfl)) rfl (lv_at hl 3 rfl) ?_
      refine lv_iconst (v := iI 1) hx hb (okL_law_8 (670, .iconst 1, 1) (List.mem_of_getElem? (i := 26) rfl)) rfl ?_
      refine sk_iadd hx hb (okL_law_8 (671, .iadd, 1) (List.mem_of_getElem? (i := 27) rfl)) ?_
      obtain ⟨hi75, hM⟩ := hM
      refine sk_sld hx hb hX hbl hbA hw.2 hXv hLL hi75 (okL_law_8 (672, .iaload, 1) (List.mem_of_getElem? (i := 28) rfl)) ?_
      refine lv_aload_n hx hb (okL_law_8 (673, .aload_n 0, 1) (List.mem_of_getElem? (i := 29) rfl)) rfl (lv_at hl 0 rfl) ?_
      refine lv_iload_n hx hb (okL_law_8 (674, .iload_n 3, 1) (List.mem_of_getElem? (i := 30) rfl)) rfl (lv_at hl 3 rfl) ?_
      refine lv_iconst (v := iI 2) hx hb (okL_law_8 (675, .iconst 2, 1) (List.mem_of_getElem? (i := 31) rfl)) rfl ?_
      refine sk_iadd hx hb (okL_law_8 (676, .iadd, 1) (List.mem_of_getElem? (i := 32) rfl)) ?_
      obtain ⟨hi76, hM⟩ := hM
      refine sk_sld hx hb hX hbl hbA hw.2 hXv hLL hi76 (okL_law_8 (677, .iaload, 1) (List.mem_of_getElem? (i := 33) rfl)) ?_
      refine sk_ci (sk_runV (a := 158) (C := RX12) (As := [.int (iI (X (v3 + 1))), .int (iI (X (v3 + 2)))]) (rest := [.int (iI r_664)]) S (c_Mo_stands l G (hXr _) (hXr _) hM) sk_blind gL_law_X12_stands rfl hdX12_stands ⟨⟨rfl, rfl⟩, Nat.le_of_ble_eq_true rfl, Nat.le_of_ble_eq_true rfl⟩ (sk_recv hK hw kdn_158 (kd_in kdn_158) (by decide) rfl) (sk_pre hK hw) rfl hl.1 rfl (Nat.le_of_ble_eq_true rfl) (okL_law_8 (678, .invokevirtual 84, 3) (List.mem_of_getElem? (i := 34) rfl)) ⟨Nat.le_of_ble_eq_true rfl, Nat.le_of_ble_eq_true rfl⟩) hw (fun r_678 I_678 H locs hr_r_678 hM hw => ?_)
      refine sk_icmp_eq (tgt := 1008) hx hb hr_r_664 hr_r_678 (okL_law_8 (681, .if_icmp .eq 327, 3) (List.mem_of_getElem? (i := 35) rfl)) (by decide) (fun c681 => ?_) (fun c681 => ?_)
      · have hM := hM.1 c681
        obtain ⟨hr77, hM⟩ := hM
        obtain ⟨v3_1008, ev3_1008⟩ : ∃ y : Int, y = v3 + 6 := ⟨_, rfl⟩
        have hM := hM v3_1008 ev3_1008
        have hr_v3_1008 : rI v3_1008 := by rw [ev3_1008]; exact hr77
        refine lv_iinc (v := iI v3_1008) (lv' := [(3, .int (iI v3_1008)), (0, .ref b), (1, .ref (sk_ad G 0)), (2, .ref (sk_ad G 158))]) hx hb (okL_law_13 (1008, .iinc 3 6, 3) (List.mem_of_getElem? (i := 26) rfl)) hl (k := 3) rfl (by rw [ev3_1008]; exact iI_add _ _) (by decide) rfl (fun ls hl => ?_)
        refine lv_goto (tgt := 18) hx hb (okL_law_13 (1011, .goto (-993), 3) (List.mem_of_getElem? (i := 27) rfl)) (by decide) ?_
        exact (hX_18 v3_1008 I_678).1 hM hr_v3_1008 H locs ls hw (lv_sub hl [1, 2, 3, 0] rfl)
      · have hM := hM.2 c681
        refine lv_iconst (v := iI 0) hx hb (okL_law_8 (684, .iconst 0, 1) (List.mem_of_getElem? (i := 36) rfl)) rfl ?_
        exact hM.elim
    · have hM := hM.2.2.2.2.2.2.2.2.2.2.2.2.2.2.2.2.2.1 c33
      refine sk_tabIn (tgt := 686) (off := 653) hx hb (rI_of _) (by rw [c33]; decide) (by rw [c33]; rfl) (okL_law_0 (33, .tableswitch 975 0 29 #[135, 178, 241, 254, 297, 320, 343, 386, 429, 452, 485, 518, 541, 554, 567, 620, 653, 676, 689, 712, 725, 748, 771, 784, 827, 840, 903, 916, 939, 952], 135) (List.mem_of_getElem? (i := 21) rfl)) (by decide) ?_
      refine lv_aload_n hx hb (okL_law_8 (686, .aload_n 1, 1) (List.mem_of_getElem? (i := 38) rfl)) rfl (lv_at hl 1 rfl) ?_
      refine lv_aload_n hx hb (okL_law_8 (687, .aload_n 0, 1) (List.mem_of_getElem? (i := 39) rfl)) rfl (lv_at hl 0 rfl) ?_
      refine lv_iload_n hx hb (okL_law_8 (688, .iload_n 3, 1) (List.mem_of_getElem? (i := 40) rfl)) rfl (lv_at hl 3 rfl) ?_
      refine lv_iconst (v := iI 1) hx hb (okL_law_8 (689, .iconst 1, 1) (List.mem_of_getElem? (i := 41) rfl)) rfl ?_
      refine sk_iadd hx hb (okL_law_8 (690, .iadd, 1) (List.mem_of_getElem? (i := 42) rfl)) ?_
      obtain ⟨hi78, hM⟩ := hM
      refine sk_sld hx hb hX hbl hbA hw.2 hXv hLL hi78 (okL_law_8 (691, .iaload, 1) (List.mem_of_getElem? (i := 43) rfl)) ?_
      refine sk_ci (sk_runV (a := 0) (C := RX11) (As := [.int (iI (X (v3 + 1)))]) (rest := []) S (c_Sky_lands l G (hXr _) hM) sk_blind gL_law_X11_lands rfl hdX11_lands ⟨⟨rfl, rfl⟩, Nat.le_of_ble_eq_true rfl, Nat.le_of_ble_eq_true rfl⟩ (sk_recv hK hw kdn_0 (kd_in kdn_0) (by decide) rfl) (sk_pre hK hw) rfl hl.1 rfl (Nat.le_of_ble_eq_true rfl) (okL_law_8 (692, .invokevirtual 85, 3) (List.mem_of_getElem? (i := 44) rfl)) ⟨Nat.le_of_ble_eq_true rfl, Nat.le_of_ble_eq_true rfl⟩) hw (fun r_692 I_692 H locs hr_r_692 hM hw => ?_)
      refine lv_aload_n hx hb (okL_law_8 (695, .aload_n 2, 1) (List.mem_of_getElem? (i := 45) rfl)) rfl (lv_at hl 2 rfl) ?_
      refine lv_aload_n hx hb (okL_law_8 (696, .aload_n 0, 1) (List.mem_of_getElem? (i := 46) rfl)) rfl (lv_at hl 0 rfl) ?_
      refine lv_iload_n hx hb (okL_law_8 (697, .iload_n 3, 1) (List.mem_of_getElem? (i := 47) rfl)) rfl (lv_at hl 3 rfl) ?_
      refine lv_iconst (v := iI 1) hx hb (okL_law_8 (698, .iconst 1, 1) (List.mem_of_getElem? (i := 48) rfl)) rfl ?_
      refine sk_iadd hx hb (okL_law_8 (699, .iadd, 1) (List.mem_of_getElem? (i := 49) rfl)) ?_
      obtain ⟨hi79, hM⟩ := hM
      refine sk_sld hx hb hX hbl hbA hw.2 hXv hLL hi79 (okL_law_9 (700, .iaload, 1) (List.mem_of_getElem? (i := 0) rfl)) ?_
      refine sk_ci (sk_runV (a := 158) (C := RX12) (As := [.int (iI (X (v3 + 1)))]) (rest := [.int (iI r_692)]) S (c_Mo_lands l G (hXr _) hM) sk_blind gL_law_X12_lands rfl hdX12_lands ⟨⟨rfl, rfl⟩, Nat.le_of_ble_eq_true rfl, Nat.le_of_ble_eq_true rfl⟩ (sk_recv hK hw kdn_158 (kd_in kdn_158) (by decide) rfl) (sk_pre hK hw) rfl hl.1 rfl (Nat.le_of_ble_eq_true rfl) (okL_law_9 (701, .invokevirtual 88, 3) (List.mem_of_getElem? (i := 1) rfl)) ⟨Nat.le_of_ble_eq_true rfl, Nat.le_of_ble_eq_true rfl⟩) hw (fun r_701 I_701 H locs hr_r_701 hM hw => ?_)
      refine sk_icmp_eq (tgt := 1008) hx hb hr_r_692 hr_r_701 (okL_law_9 (704, .if_icmp .eq 304, 3) (List.mem_of_getElem? (i := 2) rfl)) (by decide) (fun c704 => ?_) (fun c704 => ?_)
      · have hM := hM.1 c704
        obtain ⟨hr80, hM⟩ := hM
        obtain ⟨v3_1008, ev3_1008⟩ : ∃ y : Int, y = v3 + 6 := ⟨_, rfl⟩
        have hM := hM v3_1008 ev3_1008
        have hr_v3_1008 : rI v3_1008 := by rw [ev3_1008]; exact hr80
        refine lv_iinc (v := iI v3_1008) (lv' := [(3, .int (iI v3_1008)), (0, .ref b), (1, .ref (sk_ad G 0)), (2, .ref (sk_ad G 158))]) hx hb (okL_law_13 (1008, .iinc 3 6, 3) (List.mem_of_getElem? (i := 26) rfl)) hl (k := 3) rfl (by rw [ev3_1008]; exact iI_add _ _) (by decide) rfl (fun ls hl => ?_)
        refine lv_goto (tgt := 18) hx hb (okL_law_13 (1011, .goto (-993), 3) (List.mem_of_getElem? (i := 27) rfl)) (by decide) ?_
        exact (hX_18 v3_1008 I_701).1 hM hr_v3_1008 H locs ls hw (lv_sub hl [1, 2, 3, 0] rfl)
      · have hM := hM.2 c704
        refine lv_iconst (v := iI 0) hx hb (okL_law_9 (707, .iconst 0, 1) (List.mem_of_getElem? (i := 3) rfl)) rfl ?_
        exact hM.elim
    · have hM := hM.2.2.2.2.2.2.2.2.2.2.2.2.2.2.2.2.2.2.1 c33
      refine sk_tabIn (tgt := 709) (off := 676) hx hb (rI_of _) (by rw [c33]; decide) (by rw [c33]; rfl) (okL_law_0 (33, .tableswitch 975 0 29 #[135, 178, 241, 254, 297, 320, 343, 386, 429, 452, 485, 518, 541, 554, 567, 620, 653, 676, 689, 712, 725, 748, 771, 784, 827, 840, 903, 916, 939, 952], 135) (List.mem_of_getElem? (i := 21) rfl)) (by decide) ?_
      refine lv_aload_n hx hb (okL_law_9 (709, .aload_n 1, 1) (List.mem_of_getElem? (i := 5) rfl)) rfl (lv_at hl 1 rfl) ?_
      refine sk_ci (sk_runV (a := 0) (C := RX11) (As := []) (rest := []) S (c_Sky_length l G hM) sk_blind gL_law_X11_length rfl hdX11_length ⟨⟨rfl, rfl⟩, Nat.le_of_ble_eq_true rfl, Nat.le_of_ble_eq_true rfl⟩ (sk_recv hK hw kdn_0 (kd_in kdn_0) (by decide) rfl) (sk_pre hK hw) rfl hl.1 rfl (Nat.le_of_ble_eq_true rfl) (okL_law_9 (710, .invokevirtual 89, 3) (List.mem_of_getElem? (i := 6) rfl)) ⟨Nat.le_of_ble_eq_true rfl, Nat.le_of_ble_eq_true rfl⟩) hw (fun r_710 I_710 H locs hr_r_710 hM hw => ?_)
      refine lv_aload_n hx hb (okL_law_9 (713, .aload_n 2, 1) (List.mem_of_getElem? (i := 7) rfl)) rfl (lv_at hl 2 rfl) ?_
      refine sk_ci (sk_runV (a := 158) (C := RX12) (As := []) (rest := [.int (iI r_710)]) S (c_Mo_length l G hM) sk_blind gL_law_X12_length rfl hdX12_length ⟨⟨rfl, rfl⟩, Nat.le_of_ble_eq_true rfl, Nat.le_of_ble_eq_true rfl⟩ (sk_recv hK hw kdn_158 (kd_in kdn_158) (by decide) rfl) (sk_pre hK hw) rfl hl.1 rfl (Nat.le_of_ble_eq_true rfl) (okL_law_9 (714, .invokevirtual 92, 3) (List.mem_of_getElem? (i := 8) rfl)) ⟨Nat.le_of_ble_eq_true rfl, Nat.le_of_ble_eq_true rfl⟩) hw (fun r_714 I_714 H locs hr_r_714 hM hw => ?_)
      refine sk_icmp_eq (tgt := 1008) hx hb hr_r_710 hr_r_714 (okL_law_9 (717, .if_icmp .eq 291, 3) (List.mem_of_getElem? (i := 9) rfl)) (by decide) (fun c717 => ?_) (fun c717 => ?_)
      · have hM := hM.1 c717
        obtain ⟨hr81, hM⟩ := hM
        obtain ⟨v3_1008, ev3_1008⟩ : ∃ y : Int, y = v3 + 6 := ⟨_, rfl⟩
        have hM := hM v3_1008 ev3_1008
        have hr_v3_1008 : rI v3_1008 := by rw [ev3_1008]; exact hr81
        refine lv_iinc (v := iI v3_1008) (lv' := [(3, .int (iI v3_1008)), (0, .ref b), (1, .ref (sk_ad G 0)), (2, .ref (sk_ad G 158))]) hx hb (okL_law_13 (1008, .iinc 3 6, 3) (List.mem_of_getElem? (i := 26) rfl)) hl (k := 3) rfl (by rw [ev3_1008]; exact iI_add _ _) (by decide) rfl (fun ls hl => ?_)
        refine lv_goto (tgt := 18) hx hb (okL_law_13 (1011, .goto (-993), 3) (List.mem_of_getElem? (i := 27) rfl)) (by decide) ?_
        exact (hX_18 v3_1008 I_714).1 hM hr_v3_1008 H locs ls hw (lv_sub hl [1, 2, 3, 0] rfl)
      · have hM := hM.2 c717
        refine lv_iconst (v := iI 0) hx hb (okL_law_9 (720, .iconst 0, 1) (List.mem_of_getElem? (i := 10) rfl)) rfl ?_
        exact hM.elim
    · have hM := hM.2.2.2.2.2.2.2.2.2.2.2.2.2.2.2.2.2.2.2.1 c33
      refine sk_tabIn (tgt := 722) (off := 689) hx hb (rI_of _) (by rw [c33]; decide) (by rw [c33]; rfl) (okL_law_0 (33, .tableswitch 975 0 29 #[135, 178, 241, 254, 297, 320, 343, 386, 429, 452, 485, 518, 541, 554, 567, 620, 653, 676, 689, 712, 725, 748, 771, 784, 827, 840, 903, 916, 939, 952], 135) (List.mem_of_getElem? (i := 21) rfl)) (by decide) ?_
      refine lv_aload_n hx hb (okL_law_9 (722, .aload_n 1, 1) (List.mem_of_getElem? (i := 12) rfl)) rfl (lv_at hl 1 rfl) ?_
      refine lv_aload_n hx hb (okL_law_9 (723, .aload_n 0, 1) (List.mem_of_getElem? (i := 13) rfl)) rfl (lv_at hl 0 rfl) ?_
      refine lv_iload_n hx hb (okL_law_9 (724, .iload_n 3, 1) (List.mem_of_getElem? (i := 14) rfl)) rfl (lv_at hl 3 rfl) ?_
      refine lv_iconst (v := iI 1) hx hb (okL_law_9 (725, .iconst 1, 1) (List.mem_of_getElem? (i := 15) rfl)) rfl ?_
      refine sk_iadd hx hb (okL_law_9 (726, .iadd, 1) (List.mem_of_getElem? (i := 16) rfl)) ?_
      obtain ⟨hi82, hM⟩ := hM
      refine sk_sld hx hb hX hbl hbA hw.2 hXv hLL hi82 (okL_law_9 (727, .iaload, 1) (List.mem_of_getElem? (i := 17) rfl)) ?_
      refine sk_ci (sk_runV (a := 0) (C := RX11) (As := [.int (iI (X (v3 + 1)))]) (rest := []) S (c_Sky_left l G (hXr _) hM) sk_blind gL_law_X11_left rfl hdX11_left ⟨⟨rfl, rfl⟩, Nat.le_of_ble_eq_true rfl, Nat.le_of_ble_eq_true rfl⟩ (sk_recv hK hw kdn_0 (kd_in kdn_0) (by decide) rfl) (sk_pre hK hw) rfl hl.1 rfl (Nat.le_of_ble_eq_true rfl) (okL_law_9 (728, .invokevirtual 93, 3) (List.mem_of_getElem? (i := 18) rfl)) ⟨Nat.le_of_ble_eq_true rfl, Nat.le_of_ble_eq_true rfl⟩) hw (fun r_728 I_728 H locs hr_r_728 hM hw => ?_)
      refine lv_aload_n hx hb (okL_law_9 (731, .aload_n 2, 1) (List.mem_of_getElem? (i := 19) rfl)) rfl (lv_at hl 2 rfl) ?_
      refine lv_aload_n hx hb (okL_law_9 (732, .aload_n 0, 1) (List.mem_of_getElem? (i := 20) rfl)) rfl (lv_at hl 0 rfl) ?_
      refine lv_iload_n hx hb (okL_law_9 (733, .iload_n 3, 1) (List.mem_of_getElem? (i := 21) rfl)) rfl (lv_at hl 3 rfl) ?_
      refine lv_iconst (v := iI 1) hx hb (okL_law_9 (734, .iconst 1, 1) (List.mem_of_getElem? (i := 22) rfl)) rfl ?_
      refine sk_iadd hx hb (okL_law_9 (735, .iadd, 1) (List.mem_of_getElem? (i := 23) rfl)) ?_
      obtain ⟨hi83, hM⟩ := hM
      refine sk_sld hx hb hX hbl hbA hw.2 hXv hLL hi83 (okL_law_9 (736, .iaload, 1) (List.mem_of_getElem? (i := 24) rfl)) ?_
      refine sk_ci (sk_runV (a := 158) (C := RX12) (As := [.int (iI (X (v3 + 1)))]) (rest := [.int (iI r_728)]) S (c_Mo_left l G (hXr _) hM) sk_blind gL_law_X12_left rfl hdX12_left ⟨⟨rfl, rfl⟩, Nat.le_of_ble_eq_true rfl, Nat.le_of_ble_eq_true rfl⟩ (sk_recv hK hw kdn_158 (kd_in kdn_158) (by decide) rfl) (sk_pre hK hw) rfl hl.1 rfl (Nat.le_of_ble_eq_true rfl) (okL_law_9 (737, .invokevirtual 96, 3) (List.mem_of_getElem? (i := 25) rfl)) ⟨Nat.le_of_ble_eq_true rfl, Nat.le_of_ble_eq_true rfl⟩) hw (fun r_737 I_737 H locs hr_r_737 hM hw => ?_)
      refine sk_icmp_eq (tgt := 1008) hx hb hr_r_728 hr_r_737 (okL_law_9 (740, .if_icmp .eq 268, 3) (List.mem_of_getElem? (i := 26) rfl)) (by decide) (fun c740 => ?_) (fun c740 => ?_)
      · have hM := hM.1 c740
        obtain ⟨hr84, hM⟩ := hM
        obtain ⟨v3_1008, ev3_1008⟩ : ∃ y : Int, y = v3 + 6 := ⟨_, rfl⟩
        have hM := hM v3_1008 ev3_1008
        have hr_v3_1008 : rI v3_1008 := by rw [ev3_1008]; exact hr84
        refine lv_iinc (v := iI v3_1008) (lv' := [(3, .int (iI v3_1008)), (0, .ref b), (1, .ref (sk_ad G 0)), (2, .ref (sk_ad G 158))]) hx hb (okL_law_13 (1008, .iinc 3 6, 3) (List.mem_of_getElem? (i := 26) rfl)) hl (k := 3) rfl (by rw [ev3_1008]; exact iI_add _ _) (by decide) rfl (fun ls hl => ?_)
        refine lv_goto (tgt := 18) hx hb (okL_law_13 (1011, .goto (-993), 3) (List.mem_of_getElem? (i := 27) rfl)) (by decide) ?_
        exact (hX_18 v3_1008 I_737).1 hM hr_v3_1008 H locs ls hw (lv_sub hl [1, 2, 3, 0] rfl)
      · have hM := hM.2 c740
        refine lv_iconst (v := iI 0) hx hb (okL_law_9 (743, .iconst 0, 1) (List.mem_of_getElem? (i := 27) rfl)) rfl ?_
        exact hM.elim
    · have hM := hM.2.2.2.2.2.2.2.2.2.2.2.2.2.2.2.2.2.2.2.2.1 c33
      refine sk_tabIn (tgt := 745) (off := 712) hx hb (rI_of _) (by rw [c33]; decide) (by rw [c33]; rfl) (okL_law_0 (33, .tableswitch 975 0 29 #[135, 178, 241, 254, 297, 320, 343, 386, 429, 452, 485, 518, 541, 554, 567, 620, 653, 676, 689, 712, 725, 748, 771, 784, 827, 840, 903, 916, 939, 952], 135) (List.mem_of_getElem? (i := 21) rfl)) (by decide) ?_
      refine lv_aload_n hx hb (okL_law_9 (745, .aload_n 1, 1) (List.mem_of_getElem? (i := 29) rfl)) rfl (lv_at hl 1 rfl) ?_
      refine sk_ci (sk_runV (a := 0) (C := RX11) (As := []) (rest := []) S (c_Sky_last l G hM) sk_blind gL_law_X11_last rfl hdX11_last ⟨⟨rfl, rfl⟩, Nat.le_of_ble_eq_true rfl, Nat.le_of_ble_eq_true rfl⟩ (sk_recv hK hw kdn_0 (kd_in kdn_0) (by decide) rfl) (sk_pre hK hw) rfl hl.1 rfl (Nat.le_of_ble_eq_true rfl) (okL_law_9 (746, .invokevirtual 97, 3) (List.mem_of_getElem? (i := 30) rfl)) ⟨Nat.le_of_ble_eq_true rfl, Nat.le_of_ble_eq_true rfl⟩) hw (fun r_746 I_746 H locs hr_r_746 hM hw => ?_)
      refine lv_aload_n hx hb (okL_law_9 (749, .aload_n 2, 1) (List.mem_of_getElem? (i := 31) rfl)) rfl (lv_at hl 2 rfl) ?_
      refine sk_ci (sk_runV (a := 158) (C := RX12) (As := []) (rest := [.int (iI r_746)]) S (c_Mo_last l G hM) sk_blind gL_law_X12_last rfl hdX12_last ⟨⟨rfl, rfl⟩, Nat.le_of_ble_eq_true rfl, Nat.le_of_ble_eq_true rfl⟩ (sk_recv hK hw kdn_158 (kd_in kdn_158) (by decide) rfl) (sk_pre hK hw) rfl hl.1 rfl (Nat.le_of_ble_eq_true rfl) (okL_law_9 (750, .invokevirtual 100, 3) (List.mem_of_getElem? (i := 32) rfl)) ⟨Nat.le_of_ble_eq_true rfl, Nat.le_of_ble_eq_true rfl⟩) hw (fun r_750 I_750 H locs hr_r_750 hM hw => ?_)
      refine sk_icmp_eq (tgt := 1008) hx hb hr_r_746 hr_r_750 (okL_law_9 (753, .if_icmp .eq 255, 3) (List.mem_of_getElem? (i := 33) rfl)) (by decide) (fun c753 => ?_) (fun c753 => ?_)
      · have hM := hM.1 c753
        obtain ⟨hr85, hM⟩ := hM
        obtain ⟨v3_1008, ev3_1008⟩ : ∃ y : Int, y = v3 + 6 := ⟨_, rfl⟩
        have hM := hM v3_1008 ev3_1008
        have hr_v3_1008 : rI v3_1008 := by rw [ev3_1008]; exact hr85
        refine lv_iinc (v := iI v3_1008) (lv' := [(3, .int (iI v3_1008)), (0, .ref b), (1, .ref (sk_ad G 0)), (2, .ref (sk_ad G 158))]) hx hb (okL_law_13 (1008, .iinc 3 6, 3) (List.mem_of_getElem? (i := 26) rfl)) hl (k := 3) rfl (by rw [ev3_1008]; exact iI_add _ _) (by decide) rfl (fun ls hl => ?_)
        refine lv_goto (tgt := 18) hx hb (okL_law_13 (1011, .goto (-993), 3) (List.mem_of_getElem? (i := 27) rfl)) (by decide) ?_
        exact (hX_18 v3_1008 I_750).1 hM hr_v3_1008 H locs ls hw (lv_sub hl [1, 2, 3, 0] rfl)
      · have hM := hM.2 c753
        refine lv_iconst (v := iI 0) hx hb (okL_law_9 (756, .iconst 0, 1) (List.mem_of_getElem? (i := 34) rfl)) rfl ?_
        exact hM.elim
    · have hM := hM.2.2.2.2.2.2.2.2.2.2.2.2.2.2.2.2.2.2.2.2.2.1 c33
      refine sk_tabIn (tgt := 758) (off := 725) hx hb (rI_of _) (by rw [c33]; decide) (by rw [c33]; rfl) (okL_law_0 (33, .tableswitch 975 0 29 #[135, 178, 241, 254, 297, 320, 343, 386, 429, 452, 485, 518, 541, 554, 567, 620, 653, 676, 689, 712, 725, 748, 771, 784, 827, 840, 903, 916, 939, 952], 135) (List.mem_of_getElem? (i := 21) rfl)) (by decide) ?_
      refine lv_aload_n hx hb (okL_law_9 (758, .aload_n 1, 1) (List.mem_of_getElem? (i := 36) rfl)) rfl (lv_at hl 1 rfl) ?_
      refine lv_aload_n hx hb (okL_law_9 (759, .aload_n 0, 1) (List.mem_of_getElem? (i := 37) rfl)) rfl (lv_at hl 0 rfl) ?_
      refine lv_iload_n hx hb (okL_law_9 (760, .iload_n 3, 1) (List.mem_of_getElem? (i := 38) rfl)) rfl (lv_at hl 3 rfl) ?_
      refine lv_iconst (v := iI 1) hx hb (okL_law_9 (761, .iconst 1, 1) (List.mem_of_getElem? (i := 39) rfl)) rfl ?_
      refine sk_iadd hx hb (okL_law_9 (762, .iadd, 1) (List.mem_of_getElem? (i := 40) rfl)) ?_
      obtain ⟨hi86, hM⟩ := hM
      refine sk_sld hx hb hX hbl hbA hw.2 hXv hLL hi86 (okL_law_9 (763, .iaload, 1) (List.mem_of_getElem? (i := 41) rfl)) ?_
      refine sk_ci (sk_runV (a := 0) (C := RX11) (As := [.int (iI (X (v3 + 1)))]) (rest := []) S (c_Sky_margin l G (hXr _) hM) sk_blind gL_law_X11_margin rfl hdX11_margin ⟨⟨rfl, rfl⟩, Nat.le_of_ble_eq_true rfl, Nat.le_of_ble_eq_true rfl⟩ (sk_recv hK hw kdn_0 (kd_in kdn_0) (by decide) rfl) (sk_pre hK hw) rfl hl.1 rfl (Nat.le_of_ble_eq_true rfl) (okL_law_9 (764, .invokevirtual 101, 3) (List.mem_of_getElem? (i := 42) rfl)) ⟨Nat.le_of_ble_eq_true rfl, Nat.le_of_ble_eq_true rfl⟩) hw (fun r_764 I_764 H locs hr_r_764 hM hw => ?_)
      refine lv_aload_n hx hb (okL_law_9 (767, .aload_n 2, 1) (List.mem_of_getElem? (i := 43) rfl)) rfl (lv_at hl 2 rfl) ?_
      refine lv_aload_n hx hb (okL_law_9 (768, .aload_n 0, 1) (List.mem_of_getElem? (i := 44) rfl)) rfl (lv_at hl 0 rfl) ?_
      refine lv_iload_n hx hb (okL_law_9 (769, .iload_n 3, 1) (List.mem_of_getElem? (i := 45) rfl)) rfl (lv_at hl 3 rfl) ?_
      refine lv_iconst (v := iI 1) hx hb (okL_law_9 (770, .iconst 1, 1) (List.mem_of_getElem? (i := 46) rfl)) rfl ?_
      refine sk_iadd hx hb (okL_law_9 (771, .iadd, 1) (List.mem_of_getElem? (i := 47) rfl)) ?_
      obtain ⟨hi87, hM⟩ := hM
      refine sk_sld hx hb hX hbl hbA hw.2 hXv hLL hi87 (okL_law_9 (772, .iaload, 1) (List.mem_of_getElem? (i := 48) rfl)) ?_
      refine sk_ci (sk_runV (a := 158) (C := RX12) (As := [.int (iI (X (v3 + 1)))]) (rest := [.int (iI r_764)]) S (c_Mo_margin l G (hXr _) hM) sk_blind gL_law_X12_margin rfl hdX12_margin ⟨⟨rfl, rfl⟩, Nat.le_of_ble_eq_true rfl, Nat.le_of_ble_eq_true rfl⟩ (sk_recv hK hw kdn_158 (kd_in kdn_158) (by decide) rfl) (sk_pre hK hw) rfl hl.1 rfl (Nat.le_of_ble_eq_true rfl) (okL_law_9 (773, .invokevirtual 104, 3) (List.mem_of_getElem? (i := 49) rfl)) ⟨Nat.le_of_ble_eq_true rfl, Nat.le_of_ble_eq_true rfl⟩) hw (fun r_773 I_773 H locs hr_r_773 hM hw => ?_)
      refine sk_icmp_eq (tgt := 1008) hx hb hr_r_764 hr_r_773 (okL_law_10 (776, .if_icmp .eq 232, 3) (List.mem_of_getElem? (i := 0) rfl)) (by decide) (fun c776 => ?_) (fun c776 => ?_)
      · have hM := hM.1 c776
        obtain ⟨hr88, hM⟩ := hM
        obtain ⟨v3_1008, ev3_1008⟩ : ∃ y : Int, y = v3 + 6 := ⟨_, rfl⟩
        have hM := hM v3_1008 ev3_1008
        have hr_v3_1008 : rI v3_1008 := by rw [ev3_1008]; exact hr88
        refine lv_iinc (v := iI v3_1008) (lv' := [(3, .int (iI v3_1008)), (0, .ref b), (1, .ref (sk_ad G 0)), (2, .ref (sk_ad G 158))]) hx hb (okL_law_13 (1008, .iinc 3 6, 3) (List.mem_of_getElem? (i := 26) rfl)) hl (k := 3) rfl (by rw [ev3_1008]; exact iI_add _ _) (by decide) rfl (fun ls hl => ?_)
        refine lv_goto (tgt := 18) hx hb (okL_law_13 (1011, .goto (-993), 3) (List.mem_of_getElem? (i := 27) rfl)) (by decide) ?_
        exact (hX_18 v3_1008 I_773).1 hM hr_v3_1008 H locs ls hw (lv_sub hl [1, 2, 3, 0] rfl)
      · have hM := hM.2 c776
        refine lv_iconst (v := iI 0) hx hb (okL_law_10 (779, .iconst 0, 1) (List.mem_of_getElem? (i := 1) rfl)) rfl ?_
        exact hM.elim
    · have hM := hM.2.2.2.2.2.2.2.2.2.2.2.2.2.2.2.2.2.2.2.2.2.2.1 c33
      refine sk_tabIn (tgt := 781) (off := 748) hx hb (rI_of _) (by rw [c33]; decide) (by rw [c33]; rfl) (okL_law_0 (33, .tableswitch 975 0 29 #[135, 178, 241, 254, 297, 320, 343, 386, 429, 452, 485, 518, 541, 554, 567, 620, 653, 676, 689, 712, 725, 748, 771, 784, 827, 840, 903, 916, 939, 952], 135) (List.mem_of_getElem? (i := 21) rfl)) (by decide) ?_
      refine lv_aload_n hx hb (okL_law_10 (781, .aload_n 1, 1) (List.mem_of_getElem? (i := 3) rfl)) rfl (lv_at hl 1 rfl) ?_
      refine lv_aload_n hx hb (okL_law_10 (782, .aload_n 0, 1) (List.mem_of_getElem? (i := 4) rfl)) rfl (lv_at hl 0 rfl) ?_
      refine lv_iload_n hx hb (okL_law_10 (783, .iload_n 3, 1) (List.mem_of_getElem? (i := 5) rfl)) rfl (lv_at hl 3 rfl) ?_
      refine lv_iconst (v := iI 1) hx hb (okL_law_10 (784, .iconst 1, 1) (List.mem_of_getElem? (i := 6) rfl)) rfl ?_
      refine sk_iadd hx hb (okL_law_10 (785, .iadd, 1) (List.mem_of_getElem? (i := 7) rfl)) ?_
      obtain ⟨hi89, hM⟩ := hM
      refine sk_sld hx hb hX hbl hbA hw.2 hXv hLL hi89 (okL_law_10 (786, .iaload, 1) (List.mem_of_getElem? (i := 8) rfl)) ?_
      refine sk_ci (sk_runV (a := 0) (C := RX11) (As := [.int (iI (X (v3 + 1)))]) (rest := []) S (c_Sky_colour l G (hXr _) hM) sk_blind gL_law_X11_colour rfl hdX11_colour ⟨⟨rfl, rfl⟩, Nat.le_of_ble_eq_true rfl, Nat.le_of_ble_eq_true rfl⟩ (sk_recv hK hw kdn_0 (kd_in kdn_0) (by decide) rfl) (sk_pre hK hw) rfl hl.1 rfl (Nat.le_of_ble_eq_true rfl) (okL_law_10 (787, .invokevirtual 105, 3) (List.mem_of_getElem? (i := 9) rfl)) ⟨Nat.le_of_ble_eq_true rfl, Nat.le_of_ble_eq_true rfl⟩) hw (fun r_787 I_787 H locs hr_r_787 hM hw => ?_)
      refine lv_aload_n hx hb (okL_law_10 (790, .aload_n 2, 1) (List.mem_of_getElem? (i := 10) rfl)) rfl (lv_at hl 2 rfl) ?_
      refine lv_aload_n hx hb (okL_law_10 (791, .aload_n 0, 1) (List.mem_of_getElem? (i := 11) rfl)) rfl (lv_at hl 0 rfl) ?_
      refine lv_iload_n hx hb (okL_law_10 (792, .iload_n 3, 1) (List.mem_of_getElem? (i := 12) rfl)) rfl (lv_at hl 3 rfl) ?_
      refine lv_iconst (v := iI 1) hx hb (okL_law_10 (793, .iconst 1, 1) (List.mem_of_getElem? (i := 13) rfl)) rfl ?_
      refine sk_iadd hx hb (okL_law_10 (794, .iadd, 1) (List.mem_of_getElem? (i := 14) rfl)) ?_
      obtain ⟨hi90, hM⟩ := hM
      refine sk_sld hx hb hX hbl hbA hw.2 hXv hLL hi90 (okL_law_10 (795, .iaload, 1) (List.mem_of_getElem? (i := 15) rfl)) ?_
      refine sk_ci (sk_runV (a := 158) (C := RX12) (As := [.int (iI (X (v3 + 1)))]) (rest := [.int (iI r_787)]) S (c_Mo_colour l G (hXr _) hM) sk_blind gL_law_X12_colour rfl hdX12_colour ⟨⟨rfl, rfl⟩, Nat.le_of_ble_eq_true rfl, Nat.le_of_ble_eq_true rfl⟩ (sk_recv hK hw kdn_158 (kd_in kdn_158) (by decide) rfl) (sk_pre hK hw) rfl hl.1 rfl (Nat.le_of_ble_eq_true rfl) (okL_law_10 (796, .invokevirtual 108, 3) (List.mem_of_getElem? (i := 16) rfl)) ⟨Nat.le_of_ble_eq_true rfl, Nat.le_of_ble_eq_true rfl⟩) hw (fun r_796 I_796 H locs hr_r_796 hM hw => ?_)
      refine sk_icmp_eq (tgt := 1008) hx hb hr_r_787 hr_r_796 (okL_law_10 (799, .if_icmp .eq 209, 3) (List.mem_of_getElem? (i := 17) rfl)) (by decide) (fun c799 => ?_) (fun c799 => ?_)
      · have hM := hM.1 c799
        obtain ⟨hr91, hM⟩ := hM
        obtain ⟨v3_1008, ev3_1008⟩ : ∃ y : Int, y = v3 + 6 := ⟨_, rfl⟩
        have hM := hM v3_1008 ev3_1008
        have hr_v3_1008 : rI v3_1008 := by rw [ev3_1008]; exact hr91
        refine lv_iinc (v := iI v3_1008) (lv' := [(3, .int (iI v3_1008)), (0, .ref b), (1, .ref (sk_ad G 0)), (2, .ref (sk_ad G 158))]) hx hb (okL_law_13 (1008, .iinc 3 6, 3) (List.mem_of_getElem? (i := 26) rfl)) hl (k := 3) rfl (by rw [ev3_1008]; exact iI_add _ _) (by decide) rfl (fun ls hl => ?_)
        refine lv_goto (tgt := 18) hx hb (okL_law_13 (1011, .goto (-993), 3) (List.mem_of_getElem? (i := 27) rfl)) (by decide) ?_
        exact (hX_18 v3_1008 I_796).1 hM hr_v3_1008 H locs ls hw (lv_sub hl [1, 2, 3, 0] rfl)
      · have hM := hM.2 c799
        refine lv_iconst (v := iI 0) hx hb (okL_law_10 (802, .iconst 0, 1) (List.mem_of_getElem? (i := 18) rfl)) rfl ?_
        exact hM.elim
    · have hM := hM.2.2.2.2.2.2.2.2.2.2.2.2.2.2.2.2.2.2.2.2.2.2.2.1 c33
      refine sk_tabIn (tgt := 804) (off := 771) hx hb (rI_of _) (by rw [c33]; decide) (by rw [c33]; rfl) (okL_law_0 (33, .tableswitch 975 0 29 #[135, 178, 241, 254, 297, 320, 343, 386, 429, 452, 485, 518, 541, 554, 567, 620, 653, 676, 689, 712, 725, 748, 771, 784, 827, 840, 903, 916, 939, 952], 135) (List.mem_of_getElem? (i := 21) rfl)) (by decide) ?_
      refine lv_aload_n hx hb (okL_law_10 (804, .aload_n 1, 1) (List.mem_of_getElem? (i := 20) rfl)) rfl (lv_at hl 1 rfl) ?_
      refine sk_ci (sk_runV (a := 0) (C := RX11) (As := []) (rest := []) S (c_Sky_unclean l G hM) sk_blind gL_law_X11_unclean rfl hdX11_unclean ⟨⟨rfl, rfl⟩, Nat.le_of_ble_eq_true rfl, Nat.le_of_ble_eq_true rfl⟩ (sk_recv hK hw kdn_0 (kd_in kdn_0) (by decide) rfl) (sk_pre hK hw) rfl hl.1 rfl (Nat.le_of_ble_eq_true rfl) (okL_law_10 (805, .invokevirtual 109, 3) (List.mem_of_getElem? (i := 21) rfl)) ⟨Nat.le_of_ble_eq_true rfl, Nat.le_of_ble_eq_true rfl⟩) hw (fun r_805 I_805 H locs hr_r_805 hM hw => ?_)
      refine lv_aload_n hx hb (okL_law_10 (808, .aload_n 2, 1) (List.mem_of_getElem? (i := 22) rfl)) rfl (lv_at hl 2 rfl) ?_
      refine sk_ci (sk_runV (a := 158) (C := RX12) (As := []) (rest := [.int (iI r_805)]) S (c_Mo_unclean l G hM) sk_blind gL_law_X12_unclean rfl hdX12_unclean ⟨⟨rfl, rfl⟩, Nat.le_of_ble_eq_true rfl, Nat.le_of_ble_eq_true rfl⟩ (sk_recv hK hw kdn_158 (kd_in kdn_158) (by decide) rfl) (sk_pre hK hw) rfl hl.1 rfl (Nat.le_of_ble_eq_true rfl) (okL_law_10 (809, .invokevirtual 112, 3) (List.mem_of_getElem? (i := 23) rfl)) ⟨Nat.le_of_ble_eq_true rfl, Nat.le_of_ble_eq_true rfl⟩) hw (fun r_809 I_809 H locs hr_r_809 hM hw => ?_)
      refine sk_icmp_eq (tgt := 1008) hx hb hr_r_805 hr_r_809 (okL_law_10 (812, .if_icmp .eq 196, 3) (List.mem_of_getElem? (i := 24) rfl)) (by decide) (fun c812 => ?_) (fun c812 => ?_)
      · have hM := hM.1 c812
        obtain ⟨hr92, hM⟩ := hM
        obtain ⟨v3_1008, ev3_1008⟩ : ∃ y : Int, y = v3 + 6 := ⟨_, rfl⟩
        have hM := hM v3_1008 ev3_1008
        have hr_v3_1008 : rI v3_1008 := by rw [ev3_1008]; exact hr92
        refine lv_iinc (v := iI v3_1008) (lv' := [(3, .int (iI v3_1008)), (0, .ref b), (1, .ref (sk_ad G 0)), (2, .ref (sk_ad G 158))]) hx hb (okL_law_13 (1008, .iinc 3 6, 3) (List.mem_of_getElem? (i := 26) rfl)) hl (k := 3) rfl (by rw [ev3_1008]; exact iI_add _ _) (by decide) rfl (fun ls hl => ?_)
        refine lv_goto (tgt := 18) hx hb (okL_law_13 (1011, .goto (-993), 3) (List.mem_of_getElem? (i := 27) rfl)) (by decide) ?_
        exact (hX_18 v3_1008 I_809).1 hM hr_v3_1008 H locs ls hw (lv_sub hl [1, 2, 3, 0] rfl)
      · have hM := hM.2 c812
        refine lv_iconst (v := iI 0) hx hb (okL_law_10 (815, .iconst 0, 1) (List.mem_of_getElem? (i := 25) rfl)) rfl ?_
        exact hM.elim
    · have hM := hM.2.2.2.2.2.2.2.2.2.2.2.2.2.2.2.2.2.2.2.2.2.2.2.2.1 c33
      refine sk_tabIn (tgt := 817) (off := 784) hx hb (rI_of _) (by rw [c33]; decide) (by rw [c33]; rfl) (okL_law_0 (33, .tableswitch 975 0 29 #[135, 178, 241, 254, 297, 320, 343, 386, 429, 452, 485, 518, 541, 554, 567, 620, 653, 676, 689, 712, 725, 748, 771, 784, 827, 840, 903, 916, 939, 952], 135) (List.mem_of_getElem? (i := 21) rfl)) (by decide) ?_
      refine lv_aload_n hx hb (okL_law_10 (817, .aload_n 1, 1) (List.mem_of_getElem? (i := 27) rfl)) rfl (lv_at hl 1 rfl) ?_
      refine lv_aload_n hx hb (okL_law_10 (818, .aload_n 0, 1) (List.mem_of_getElem? (i := 28) rfl)) rfl (lv_at hl 0 rfl) ?_
      refine lv_iload_n hx hb (okL_law_10 (819, .iload_n 3, 1) (List.mem_of_getElem? (i := 29) rfl)) rfl (lv_at hl 3 rfl) ?_
      refine lv_iconst (v := iI 1) hx hb (okL_law_10 (820, .iconst 1, 1) (List.mem_of_getElem? (i := 30) rfl)) rfl ?_
      refine sk_iadd hx hb (okL_law_10 (821, .iadd, 1) (List.mem_of_getElem? (i := 31) rfl)) ?_
      obtain ⟨hi93, hM⟩ := hM
      refine sk_sld hx hb hX hbl hbA hw.2 hXv hLL hi93 (okL_law_10 (822, .iaload, 1) (List.mem_of_getElem? (i := 32) rfl)) ?_
      refine lv_aload_n hx hb (okL_law_10 (823, .aload_n 0, 1) (List.mem_of_getElem? (i := 33) rfl)) rfl (lv_at hl 0 rfl) ?_
      refine lv_iload_n hx hb (okL_law_10 (824, .iload_n 3, 1) (List.mem_of_getElem? (i := 34) rfl)) rfl (lv_at hl 3 rfl) ?_
      refine lv_iconst (v := iI 2) hx hb (okL_law_10 (825, .iconst 2, 1) (List.mem_of_getElem? (i := 35) rfl)) rfl ?_
      refine sk_iadd hx hb (okL_law_10 (826, .iadd, 1) (List.mem_of_getElem? (i := 36) rfl)) ?_
      obtain ⟨hi94, hM⟩ := hM
      refine sk_sld hx hb hX hbl hbA hw.2 hXv hLL hi94 (okL_law_10 (827, .iaload, 1) (List.mem_of_getElem? (i := 37) rfl)) ?_
      refine lv_aload_n hx hb (okL_law_10 (828, .aload_n 0, 1) (List.mem_of_getElem? (i := 38) rfl)) rfl (lv_at hl 0 rfl) ?_
      refine lv_iload_n hx hb (okL_law_10 (829, .iload_n 3, 1) (List.mem_of_getElem? (i := 39) rfl)) rfl (lv_at hl 3 rfl) ?_
      refine lv_iconst (v := iI 3) hx hb (okL_law_10 (830, .iconst 3, 1) (List.mem_of_getElem? (i := 40) rfl)) rfl ?_
      refine sk_iadd hx hb (okL_law_10 (831, .iadd, 1) (List.mem_of_getElem? (i := 41) rfl)) ?_
      obtain ⟨hi95, hM⟩ := hM
      refine sk_sld hx hb hX hbl hbA hw.2 hXv hLL hi95 (okL_law_10 (832, .iaload, 1) (List.mem_of_getElem? (i := 42) rfl)) ?_
      refine sk_ci (sk_runV (a := 0) (C := RX11) (As := [.int (iI (X (v3 + 1))), .int (iI (X (v3 + 2))), .int (iI (X (v3 + 3)))]) (rest := []) S (c_Sky_fails l G (hXr _) (hXr _) (hXr _) hM) sk_blind gL_law_X11_fails rfl hdX11_fails ⟨⟨rfl, rfl⟩, Nat.le_of_ble_eq_true rfl, Nat.le_of_ble_eq_true rfl⟩ (sk_recv hK hw kdn_0 (kd_in kdn_0) (by decide) rfl) (sk_pre hK hw) rfl hl.1 rfl (Nat.le_of_ble_eq_true rfl) (okL_law_10 (833, .invokevirtual 113, 3) (List.mem_of_getElem? (i := 43) rfl)) ⟨Nat.le_of_ble_eq_true rfl, Nat.le_of_ble_eq_true rfl⟩) hw (fun r_833 I_833 H locs hr_r_833 hM hw => ?_)
      refine lv_aload_n hx hb (okL_law_10 (836, .aload_n 2, 1) (List.mem_of_getElem? (i := 44) rfl)) rfl (lv_at hl 2 rfl) ?_
      refine lv_aload_n hx hb (okL_law_10 (837, .aload_n 0, 1) (List.mem_of_getElem? (i := 45) rfl)) rfl (lv_at hl 0 rfl) ?_
      refine lv_iload_n hx hb (okL_law_10 (838, .iload_n 3, 1) (List.mem_of_getElem? (i := 46) rfl)) rfl (lv_at hl 3 rfl) ?_
      refine lv_iconst (v := iI 1) hx hb (okL_law_10 (839, .iconst 1, 1) (List.mem_of_getElem? (i := 47) rfl)) rfl ?_
      refine sk_iadd hx hb (okL_law_10 (840, .iadd, 1) (List.mem_of_getElem? (i := 48) rfl)) ?_
      obtain ⟨hi96, hM⟩ := hM
      refine sk_sld hx hb hX hbl hbA hw.2 hXv hLL hi96 (okL_law_10 (841, .iaload, 1) (List.mem_of_getElem? (i := 49) rfl)) ?_
      refine lv_aload_n hx hb (okL_law_11 (842, .aload_n 0, 1) (List.mem_of_getElem? (i := 0) rfl)) rfl (lv_at hl 0 rfl) ?_
      refine lv_iload_n hx hb (okL_law_11 (843, .iload_n 3, 1) (List.mem_of_getElem? (i := 1) rfl)) rfl (lv_at hl 3 rfl) ?_
      refine lv_iconst (v := iI 2) hx hb (okL_law_11 (844, .iconst 2, 1) (List.mem_of_getElem? (i := 2) rfl)) rfl ?_
      refine sk_iadd hx hb (okL_law_11 (845, .iadd, 1) (List.mem_of_getElem? (i := 3) rfl)) ?_
      obtain ⟨hi97, hM⟩ := hM
      refine sk_sld hx hb hX hbl hbA hw.2 hXv hLL hi97 (okL_law_11 (846, .iaload, 1) (List.mem_of_getElem? (i := 4) rfl)) ?_
      refine lv_aload_n hx hb (okL_law_11 (847, .aload_n 0, 1) (List.mem_of_getElem? (i := 5) rfl)) rfl (lv_at hl 0 rfl) ?_
      refine lv_iload_n hx hb (okL_law_11 (848, .iload_n 3, 1) (List.mem_of_getElem? (i := 6) rfl)) rfl (lv_at hl 3 rfl) ?_
      refine lv_iconst (v := iI 3) hx hb (okL_law_11 (849, .iconst 3, 1) (List.mem_of_getElem? (i := 7) rfl)) rfl ?_
      refine sk_iadd hx hb (okL_law_11 (850, .iadd, 1) (List.mem_of_getElem? (i := 8) rfl)) ?_
      obtain ⟨hi98, hM⟩ := hM
      refine sk_sld hx hb hX hbl hbA hw.2 hXv hLL hi98 (okL_law_11 (851, .iaload, 1) (List.mem_of_getElem? (i := 9) rfl)) ?_
      refine sk_ci (sk_runV (a := 158) (C := RX12) (As := [.int (iI (X (v3 + 1))), .int (iI (X (v3 + 2))), .int (iI (X (v3 + 3)))]) (rest := [.int (iI r_833)]) S (c_Mo_fails l G (hXr _) (hXr _) (hXr _) hM) sk_blind gL_law_X12_fails rfl hdX12_fails ⟨⟨rfl, rfl⟩, Nat.le_of_ble_eq_true rfl, Nat.le_of_ble_eq_true rfl⟩ (sk_recv hK hw kdn_158 (kd_in kdn_158) (by decide) rfl) (sk_pre hK hw) rfl hl.1 rfl (Nat.le_of_ble_eq_true rfl) (okL_law_11 (852, .invokevirtual 116, 3) (List.mem_of_getElem? (i := 10) rfl)) ⟨Nat.le_of_ble_eq_true rfl, Nat.le_of_ble_eq_true rfl⟩) hw (fun r_852 I_852 H locs hr_r_852 hM hw => ?_)
      refine sk_icmp_eq (tgt := 1008) hx hb hr_r_833 hr_r_852 (okL_law_11 (855, .if_icmp .eq 153, 3) (List.mem_of_getElem? (i := 11) rfl)) (by decide) (fun c855 => ?_) (fun c855 => ?_)
      · have hM := hM.1 c855
        obtain ⟨hr99, hM⟩ := hM
        obtain ⟨v3_1008, ev3_1008⟩ : ∃ y : Int, y = v3 + 6 := ⟨_, rfl⟩
        have hM := hM v3_1008 ev3_1008
        have hr_v3_1008 : rI v3_1008 := by rw [ev3_1008]; exact hr99
        refine lv_iinc (v := iI v3_1008) (lv' := [(3, .int (iI v3_1008)), (0, .ref b), (1, .ref (sk_ad G 0)), (2, .ref (sk_ad G 158))]) hx hb (okL_law_13 (1008, .iinc 3 6, 3) (List.mem_of_getElem? (i := 26) rfl)) hl (k := 3) rfl (by rw [ev3_1008]; exact iI_add _ _) (by decide) rfl (fun ls hl => ?_)
        refine lv_goto (tgt := 18) hx hb (okL_law_13 (1011, .goto (-993), 3) (List.mem_of_getElem? (i := 27) rfl)) (by decide) ?_
        exact (hX_18 v3_1008 I_852).1 hM hr_v3_1008 H locs ls hw (lv_sub hl [1, 2, 3, 0] rfl)
      · have hM := hM.2 c855
        refine lv_iconst (v := iI 0) hx hb (okL_law_11 (858, .iconst 0, 1) (List.mem_of_getElem? (i := 12) rfl)) rfl ?_
        exact hM.elim
    · have hM := hM.2.2.2.2.2.2.2.2.2.2.2.2.2.2.2.2.2.2.2.2.2.2.2.2.2.1 c33
      refine sk_tabIn (tgt := 860) (off := 827) hx hb (rI_of _) (by rw [c33]; decide) (by rw [c33]; rfl) (okL_law_0 (33, .tableswitch 975 0 29 #[135, 178, 241, 254, 297, 320, 343, 386, 429, 452, 485, 518, 541, 554, 567, 620, 653, 676, 689, 712, 725, 748, 771, 784, 827, 840, 903, 916, 939, 952], 135) (List.mem_of_getElem? (i := 21) rfl)) (by decide) ?_
      refine lv_aload_n hx hb (okL_law_11 (860, .aload_n 1, 1) (List.mem_of_getElem? (i := 14) rfl)) rfl (lv_at hl 1 rfl) ?_
      refine sk_ci (sk_runV (a := 0) (C := RX11) (As := []) (rest := []) S (c_Sky_cut l G hM) sk_blind gL_law_X11_cut rfl hdX11_cut ⟨⟨rfl, rfl⟩, Nat.le_of_ble_eq_true rfl, Nat.le_of_ble_eq_true rfl⟩ (sk_recv hK hw kdn_0 (kd_in kdn_0) (by decide) rfl) (sk_pre hK hw) rfl hl.1 rfl (Nat.le_of_ble_eq_true rfl) (okL_law_11 (861, .invokevirtual 117, 3) (List.mem_of_getElem? (i := 15) rfl)) ⟨Nat.le_of_ble_eq_true rfl, Nat.le_of_ble_eq_true rfl⟩) hw (fun r_861 I_861 H locs hr_r_861 hM hw => ?_)
      refine lv_aload_n hx hb (okL_law_11 (864, .aload_n 2, 1) (List.mem_of_getElem? (i := 16) rfl)) rfl (lv_at hl 2 rfl) ?_
      refine sk_ci (sk_runV (a := 158) (C := RX12) (As := []) (rest := [.int (iI r_861)]) S (c_Mo_cut l G hM) sk_blind gL_law_X12_cut rfl hdX12_cut ⟨⟨rfl, rfl⟩, Nat.le_of_ble_eq_true rfl, Nat.le_of_ble_eq_true rfl⟩ (sk_recv hK hw kdn_158 (kd_in kdn_158) (by decide) rfl) (sk_pre hK hw) rfl hl.1 rfl (Nat.le_of_ble_eq_true rfl) (okL_law_11 (865, .invokevirtual 120, 3) (List.mem_of_getElem? (i := 17) rfl)) ⟨Nat.le_of_ble_eq_true rfl, Nat.le_of_ble_eq_true rfl⟩) hw (fun r_865 I_865 H locs hr_r_865 hM hw => ?_)
      refine sk_icmp_eq (tgt := 1008) hx hb hr_r_861 hr_r_865 (okL_law_11 (868, .if_icmp .eq 140, 3) (List.mem_of_getElem? (i := 18) rfl)) (by decide) (fun c868 => ?_) (fun c868 => ?_)
      · have hM := hM.1 c868
        obtain ⟨hr100, hM⟩ := hM
        obtain ⟨v3_1008, ev3_1008⟩ : ∃ y : Int, y = v3 + 6 := ⟨_, rfl⟩
        have hM := hM v3_1008 ev3_1008
        have hr_v3_1008 : rI v3_1008 := by rw [ev3_1008]; exact hr100
        refine lv_iinc (v := iI v3_1008) (lv' := [(3, .int (iI v3_1008)), (0, .ref b), (1, .ref (sk_ad G 0)), (2, .ref (sk_ad G 158))]) hx hb (okL_law_13 (1008, .iinc 3 6, 3) (List.mem_of_getElem? (i := 26) rfl)) hl (k := 3) rfl (by rw [ev3_1008]; exact iI_add _ _) (by decide) rfl (fun ls hl => ?_)
        refine lv_goto (tgt := 18) hx hb (okL_law_13 (1011, .goto (-993), 3) (List.mem_of_getElem? (i := 27) rfl)) (by decide) ?_
        exact (hX_18 v3_1008 I_865).1 hM hr_v3_1008 H locs ls hw (lv_sub hl [1, 2, 3, 0] rfl)
      · have hM := hM.2 c868
        refine lv_iconst (v := iI 0) hx hb (okL_law_11 (871, .iconst 0, 1) (List.mem_of_getElem? (i := 19) rfl)) rfl ?_
        exact hM.elim
    · have hM := hM.2.2.2.2.2.2.2.2.2.2.2.2.2.2.2.2.2.2.2.2.2.2.2.2.2.2.1 c33
      refine sk_tabIn (tgt := 873) (off := 840) hx hb (rI_of _) (by rw [c33]; decide) (by rw [c33]; rfl) (okL_law_0 (33, .tableswitch 975 0 29 #[135, 178, 241, 254, 297, 320, 343, 386, 429, 452, 485, 518, 541, 554, 567, 620, 653, 676, 689, 712, 725, 748, 771, 784, 827, 840, 903, 916, 939, 952], 135) (List.mem_of_getElem? (i := 21) rfl)) (by decide) ?_
      refine lv_aload_n hx hb (okL_law_11 (873, .aload_n 1, 1) (List.mem_of_getElem? (i := 21) rfl)) rfl (lv_at hl 1 rfl) ?_
      refine lv_aload_n hx hb (okL_law_11 (874, .aload_n 0, 1) (List.mem_of_getElem? (i := 22) rfl)) rfl (lv_at hl 0 rfl) ?_
      refine lv_iload_n hx hb (okL_law_11 (875, .iload_n 3, 1) (List.mem_of_getElem? (i := 23) rfl)) rfl (lv_at hl 3 rfl) ?_
      refine lv_iconst (v := iI 1) hx hb (okL_law_11 (876, .iconst 1, 1) (List.mem_of_getElem? (i := 24) rfl)) rfl ?_
      refine sk_iadd hx hb (okL_law_11 (877, .iadd, 1) (List.mem_of_getElem? (i := 25) rfl)) ?_
      obtain ⟨hi101, hM⟩ := hM
      refine sk_sld hx hb hX hbl hbA hw.2 hXv hLL hi101 (okL_law_11 (878, .iaload, 1) (List.mem_of_getElem? (i := 26) rfl)) ?_
      refine lv_aload_n hx hb (okL_law_11 (879, .aload_n 0, 1) (List.mem_of_getElem? (i := 27) rfl)) rfl (lv_at hl 0 rfl) ?_
      refine lv_iload_n hx hb (okL_law_11 (880, .iload_n 3, 1) (List.mem_of_getElem? (i := 28) rfl)) rfl (lv_at hl 3 rfl) ?_
      refine lv_iconst (v := iI 2) hx hb (okL_law_11 (881, .iconst 2, 1) (List.mem_of_getElem? (i := 29) rfl)) rfl ?_
      refine sk_iadd hx hb (okL_law_11 (882, .iadd, 1) (List.mem_of_getElem? (i := 30) rfl)) ?_
      obtain ⟨hi102, hM⟩ := hM
      refine sk_sld hx hb hX hbl hbA hw.2 hXv hLL hi102 (okL_law_11 (883, .iaload, 1) (List.mem_of_getElem? (i := 31) rfl)) ?_
      refine lv_aload_n hx hb (okL_law_11 (884, .aload_n 0, 1) (List.mem_of_getElem? (i := 32) rfl)) rfl (lv_at hl 0 rfl) ?_
      refine lv_iload_n hx hb (okL_law_11 (885, .iload_n 3, 1) (List.mem_of_getElem? (i := 33) rfl)) rfl (lv_at hl 3 rfl) ?_
      refine lv_iconst (v := iI 3) hx hb (okL_law_11 (886, .iconst 3, 1) (List.mem_of_getElem? (i := 34) rfl)) rfl ?_
      refine sk_iadd hx hb (okL_law_11 (887, .iadd, 1) (List.mem_of_getElem? (i := 35) rfl)) ?_
      obtain ⟨hi103, hM⟩ := hM
      refine sk_sld hx hb hX hbl hbA hw.2 hXv hLL hi103 (okL_law_11 (888, .iaload, 1) (List.mem_of_getElem? (i := 36) rfl)) ?_
      refine lv_aload_n hx hb (okL_law_11 (889, .aload_n 0, 1) (List.mem_of_getElem? (i := 37) rfl)) rfl (lv_at hl 0 rfl) ?_
      refine lv_iload_n hx hb (okL_law_11 (890, .iload_n 3, 1) (List.mem_of_getElem? (i := 38) rfl)) rfl (lv_at hl 3 rfl) ?_
      refine lv_iconst (v := iI 4) hx hb (okL_law_11 (891, .iconst 4, 1) (List.mem_of_getElem? (i := 39) rfl)) rfl ?_
      refine sk_iadd hx hb (okL_law_11 (892, .iadd, 1) (List.mem_of_getElem? (i := 40) rfl)) ?_
      obtain ⟨hi104, hM⟩ := hM
      refine sk_sld hx hb hX hbl hbA hw.2 hXv hLL hi104 (okL_law_11 (893, .iaload, 1) (List.mem_of_getElem? (i := 41) rfl)) ?_
      refine lv_aload_n hx hb (okL_law_11 (894, .aload_n 0, 1) (List.mem_of_getElem? (i := 42) rfl)) rfl (lv_at hl 0 rfl) ?_
      refine lv_iload_n hx hb (okL_law_11 (895, .iload_n 3, 1) (List.mem_of_getElem? (i := 43) rfl)) rfl (lv_at hl 3 rfl) ?_
      refine lv_iconst (v := iI 5) hx hb (okL_law_11 (896, .iconst 5, 1) (List.mem_of_getElem? (i := 44) rfl)) rfl ?_
      refine sk_iadd hx hb (okL_law_11 (897, .iadd, 1) (List.mem_of_getElem? (i := 45) rfl)) ?_
      obtain ⟨hi105, hM⟩ := hM
      refine sk_sld hx hb hX hbl hbA hw.2 hXv hLL hi105 (okL_law_11 (898, .iaload, 1) (List.mem_of_getElem? (i := 46) rfl)) ?_
      refine sk_ci (sk_runV (a := 0) (C := RX11) (As := [.int (iI (X (v3 + 1))), .int (iI (X (v3 + 2))), .int (iI (X (v3 + 3))), .int (iI (X (v3 + 4))), .int (iI (X (v3 + 5)))]) (rest := []) S (c_Sky_mark l G (hXr _) (hXr _) (hXr _) (hXr _) (hXr _) hM) sk_blind gL_law_X11_mark rfl hdX11_mark ⟨⟨rfl, rfl⟩, Nat.le_of_ble_eq_true rfl, Nat.le_of_ble_eq_true rfl⟩ (sk_recv hK hw kdn_0 (kd_in kdn_0) (by decide) rfl) (sk_pre hK hw) rfl hl.1 rfl (Nat.le_of_ble_eq_true rfl) (okL_law_11 (899, .invokevirtual 121, 3) (List.mem_of_getElem? (i := 47) rfl)) ⟨Nat.le_of_ble_eq_true rfl, Nat.le_of_ble_eq_true rfl⟩) hw (fun r_899 I_899 H locs hr_r_899 hM hw => ?_)
      refine lv_aload_n hx hb (okL_law_11 (902, .aload_n 2, 1) (List.mem_of_getElem? (i := 48) rfl)) rfl (lv_at hl 2 rfl) ?_
      refine lv_aload_n hx hb (okL_law_11 (903, .aload_n 0, 1) (List.mem_of_getElem? (i := 49) rfl)) rfl (lv_at hl 0 rfl) ?_
      refine lv_iload_n hx hb (okL_law_12 (904, .iload_n 3, 1) (List.mem_of_getElem? (i := 0) rfl)) rfl (lv_at hl 3 rfl) ?_
      refine lv_iconst (v := iI 1) hx hb (okL_law_12 (905, .iconst 1, 1) (List.mem_of_getElem? (i := 1) rfl)) rfl ?_
      refine sk_iadd hx hb (okL_law_12 (906, .iadd, 1) (List.mem_of_getElem? (i := 2) rfl)) ?_
      obtain ⟨hi106, hM⟩ := hM
      refine sk_sld hx hb hX hbl hbA hw.2 hXv hLL hi106 (okL_law_12 (907, .iaload, 1) (List.mem_of_getElem? (i := 3) rfl)) ?_
      refine lv_aload_n hx hb (okL_law_12 (908, .aload_n 0, 1) (List.mem_of_getElem? (i := 4) rfl)) rfl (lv_at hl 0 rfl) ?_
      refine lv_iload_n hx hb (okL_law_12 (909, .iload_n 3, 1) (List.mem_of_getElem? (i := 5) rfl)) rfl (lv_at hl 3 rfl) ?_
      refine lv_iconst (v := iI 2) hx hb (okL_law_12 (910, .iconst 2, 1) (List.mem_of_getElem? (i := 6) rfl)) rfl ?_
      refine sk_iadd hx hb (okL_law_12 (911, .iadd, 1) (List.mem_of_getElem? (i := 7) rfl)) ?_
      obtain ⟨hi107, hM⟩ := hM
      refine sk_sld hx hb hX hbl hbA hw.2 hXv hLL hi107 (okL_law_12 (912, .iaload, 1) (List.mem_of_getElem? (i := 8) rfl)) ?_
      refine lv_aload_n hx hb (okL_law_12 (913, .aload_n 0, 1) (List.mem_of_getElem? (i := 9) rfl)) rfl (lv_at hl 0 rfl) ?_
      refine lv_iload_n hx hb (okL_law_12 (914, .iload_n 3, 1) (List.mem_of_getElem? (i := 10) rfl)) rfl (lv_at hl 3 rfl) ?_
      refine lv_iconst (v := iI 3) hx hb (okL_law_12 (915, .iconst 3, 1) (List.mem_of_getElem? (i := 11) rfl)) rfl ?_
      refine sk_iadd hx hb (okL_law_12 (916, .iadd, 1) (List.mem_of_getElem? (i := 12) rfl)) ?_
      obtain ⟨hi108, hM⟩ := hM
      refine sk_sld hx hb hX hbl hbA hw.2 hXv hLL hi108 (okL_law_12 (917, .iaload, 1) (List.mem_of_getElem? (i := 13) rfl)) ?_
      refine lv_aload_n hx hb (okL_law_12 (918, .aload_n 0, 1) (List.mem_of_getElem? (i := 14) rfl)) rfl (lv_at hl 0 rfl) ?_
      refine lv_iload_n hx hb (okL_law_12 (919, .iload_n 3, 1) (List.mem_of_getElem? (i := 15) rfl)) rfl (lv_at hl 3 rfl) ?_
      refine lv_iconst (v := iI 4) hx hb (okL_law_12 (920, .iconst 4, 1) (List.mem_of_getElem? (i := 16) rfl)) rfl ?_
      refine sk_iadd hx hb (okL_law_12 (921, .iadd, 1) (List.mem_of_getElem? (i := 17) rfl)) ?_
      obtain ⟨hi109, hM⟩ := hM
      refine sk_sld hx hb hX hbl hbA hw.2 hXv hLL hi109 (okL_law_12 (922, .iaload, 1) (List.mem_of_getElem? (i := 18) rfl)) ?_
      refine lv_aload_n hx hb (okL_law_12 (923, .aload_n 0, 1) (List.mem_of_getElem? (i := 19) rfl)) rfl (lv_at hl 0 rfl) ?_
      refine lv_iload_n hx hb (okL_law_12 (924, .iload_n 3, 1) (List.mem_of_getElem? (i := 20) rfl)) rfl (lv_at hl 3 rfl) ?_
      refine lv_iconst (v := iI 5) hx hb (okL_law_12 (925, .iconst 5, 1) (List.mem_of_getElem? (i := 21) rfl)) rfl ?_
      refine sk_iadd hx hb (okL_law_12 (926, .iadd, 1) (List.mem_of_getElem? (i := 22) rfl)) ?_
      obtain ⟨hi110, hM⟩ := hM
      refine sk_sld hx hb hX hbl hbA hw.2 hXv hLL hi110 (okL_law_12 (927, .iaload, 1) (List.mem_of_getElem? (i := 23) rfl)) ?_
      refine sk_ci (sk_runV (a := 158) (C := RX12) (As := [.int (iI (X (v3 + 1))), .int (iI (X (v3 + 2))), .int (iI (X (v3 + 3))), .int (iI (X (v3 + 4))), .int (iI (X (v3 + 5)))]) (rest := [.int (iI r_899)]) S (c_Mo_mark l G (hXr _) (hXr _) (hXr _) (hXr _) (hXr _) hM) sk_blind gL_law_X12_mark rfl hdX12_mark ⟨⟨rfl, rfl⟩, Nat.le_of_ble_eq_true rfl, Nat.le_of_ble_eq_true rfl⟩ (sk_recv hK hw kdn_158 (kd_in kdn_158) (by decide) rfl) (sk_pre hK hw) rfl hl.1 rfl (Nat.le_of_ble_eq_true rfl) (okL_law_12 (928, .invokevirtual 125, 3) (List.mem_of_getElem? (i := 24) rfl)) ⟨Nat.le_of_ble_eq_true rfl, Nat.le_of_ble_eq_true rfl⟩) hw (fun r_928 I_928 H locs hr_r_928 hM hw => ?_)
      refine sk_icmp_eq (tgt := 1008) hx hb hr_r_899 hr_r_928 (okL_law_12 (931, .if_icmp .eq 77, 3) (List.mem_of_getElem? (i := 25) rfl)) (by decide) (fun c931 => ?_) (fun c931 => ?_)
      · have hM := hM.1 c931
        obtain ⟨hr111, hM⟩ := hM
        obtain ⟨v3_1008, ev3_1008⟩ : ∃ y : Int, y = v3 + 6 := ⟨_, rfl⟩
        have hM := hM v3_1008 ev3_1008
        have hr_v3_1008 : rI v3_1008 := by rw [ev3_1008]; exact hr111
        refine lv_iinc (v := iI v3_1008) (lv' := [(3, .int (iI v3_1008)), (0, .ref b), (1, .ref (sk_ad G 0)), (2, .ref (sk_ad G 158))]) hx hb (okL_law_13 (1008, .iinc 3 6, 3) (List.mem_of_getElem? (i := 26) rfl)) hl (k := 3) rfl (by rw [ev3_1008]; exact iI_add _ _) (by decide) rfl (fun ls hl => ?_)
        refine lv_goto (tgt := 18) hx hb (okL_law_13 (1011, .goto (-993), 3) (List.mem_of_getElem? (i := 27) rfl)) (by decide) ?_
        exact (hX_18 v3_1008 I_928).1 hM hr_v3_1008 H locs ls hw (lv_sub hl [1, 2, 3, 0] rfl)
      · have hM := hM.2 c931
        refine lv_iconst (v := iI 0) hx hb (okL_law_12 (934, .iconst 0, 1) (List.mem_of_getElem? (i := 26) rfl)) rfl ?_
        exact hM.elim
    · have hM := hM.2.2.2.2.2.2.2.2.2.2.2.2.2.2.2.2.2.2.2.2.2.2.2.2.2.2.2.1 c33
      refine sk_tabIn (tgt := 936) (off := 903) hx hb (rI_of _) (by rw [c33]; decide) (by rw [c33]; rfl) (okL_law_0 (33, .tableswitch 975 0 29 #[135, 178, 241, 254, 297, 320, 343, 386, 429, 452, 485, 518, 541, 554, 567, 620, 653, 676, 689, 712, 725, 748, 771, 784, 827, 840, 903, 916, 939, 952], 135) (List.mem_of_getElem? (i := 21) rfl)) (by decide) ?_
      refine lv_aload_n hx hb (okL_law_12 (936, .aload_n 1, 1) (List.mem_of_getElem? (i := 28) rfl)) rfl (lv_at hl 1 rfl) ?_
      refine sk_ci (sk_runV (a := 0) (C := RX11) (As := []) (rest := []) S (c_Sky_first l G hM) sk_blind gL_law_X11_first rfl hdX11_first ⟨⟨rfl, rfl⟩, Nat.le_of_ble_eq_true rfl, Nat.le_of_ble_eq_true rfl⟩ (sk_recv hK hw kdn_0 (kd_in kdn_0) (by decide) rfl) (sk_pre hK hw) rfl hl.1 rfl (Nat.le_of_ble_eq_true rfl) (okL_law_12 (937, .invokevirtual 126, 3) (List.mem_of_getElem? (i := 29) rfl)) ⟨Nat.le_of_ble_eq_true rfl, Nat.le_of_ble_eq_true rfl⟩) hw (fun r_937 I_937 H locs hr_r_937 hM hw => ?_)
      refine lv_aload_n hx hb (okL_law_12 (940, .aload_n 2, 1) (List.mem_of_getElem? (i := 30) rfl)) rfl (lv_at hl 2 rfl) ?_
      refine sk_ci (sk_runV (a := 158) (C := RX12) (As := []) (rest := [.int (iI r_937)]) S (c_Mo_first l G hM) sk_blind gL_law_X12_first rfl hdX12_first ⟨⟨rfl, rfl⟩, Nat.le_of_ble_eq_true rfl, Nat.le_of_ble_eq_true rfl⟩ (sk_recv hK hw kdn_158 (kd_in kdn_158) (by decide) rfl) (sk_pre hK hw) rfl hl.1 rfl (Nat.le_of_ble_eq_true rfl) (okL_law_12 (941, .invokevirtual 129, 3) (List.mem_of_getElem? (i := 31) rfl)) ⟨Nat.le_of_ble_eq_true rfl, Nat.le_of_ble_eq_true rfl⟩) hw (fun r_941 I_941 H locs hr_r_941 hM hw => ?_)
      refine sk_icmp_eq (tgt := 1008) hx hb hr_r_937 hr_r_941 (okL_law_12 (944, .if_icmp .eq 64, 3) (List.mem_of_getElem? (i := 32) rfl)) (by decide) (fun c944 => ?_) (fun c944 => ?_)
      · have hM := hM.1 c944
        obtain ⟨hr112, hM⟩ := hM
        obtain ⟨v3_1008, ev3_1008⟩ : ∃ y : Int, y = v3 + 6 := ⟨_, rfl⟩
        have hM := hM v3_1008 ev3_1008
        have hr_v3_1008 : rI v3_1008 := by rw [ev3_1008]; exact hr112
        refine lv_iinc (v := iI v3_1008) (lv' := [(3, .int (iI v3_1008)), (0, .ref b), (1, .ref (sk_ad G 0)), (2, .ref (sk_ad G 158))]) hx hb (okL_law_13 (1008, .iinc 3 6, 3) (List.mem_of_getElem? (i := 26) rfl)) hl (k := 3) rfl (by rw [ev3_1008]; exact iI_add _ _) (by decide) rfl (fun ls hl => ?_)
        refine lv_goto (tgt := 18) hx hb (okL_law_13 (1011, .goto (-993), 3) (List.mem_of_getElem? (i := 27) rfl)) (by decide) ?_
        exact (hX_18 v3_1008 I_941).1 hM hr_v3_1008 H locs ls hw (lv_sub hl [1, 2, 3, 0] rfl)
      · have hM := hM.2 c944
        refine lv_iconst (v := iI 0) hx hb (okL_law_12 (947, .iconst 0, 1) (List.mem_of_getElem? (i := 33) rfl)) rfl ?_
        exact hM.elim
    · have hM := hM.2.2.2.2.2.2.2.2.2.2.2.2.2.2.2.2.2.2.2.2.2.2.2.2.2.2.2.2.1 c33
      refine sk_tabIn (tgt := 949) (off := 916) hx hb (rI_of _) (by rw [c33]; decide) (by rw [c33]; rfl) (okL_law_0 (33, .tableswitch 975 0 29 #[135, 178, 241, 254, 297, 320, 343, 386, 429, 452, 485, 518, 541, 554, 567, 620, 653, 676, 689, 712, 725, 748, 771, 784, 827, 840, 903, 916, 939, 952], 135) (List.mem_of_getElem? (i := 21) rfl)) (by decide) ?_
      refine lv_aload_n hx hb (okL_law_12 (949, .aload_n 1, 1) (List.mem_of_getElem? (i := 35) rfl)) rfl (lv_at hl 1 rfl) ?_
      refine lv_aload_n hx hb (okL_law_12 (950, .aload_n 0, 1) (List.mem_of_getElem? (i := 36) rfl)) rfl (lv_at hl 0 rfl) ?_
      refine lv_iload_n hx hb (okL_law_12 (951, .iload_n 3, 1) (List.mem_of_getElem? (i := 37) rfl)) rfl (lv_at hl 3 rfl) ?_
      refine lv_iconst (v := iI 1) hx hb (okL_law_12 (952, .iconst 1, 1) (List.mem_of_getElem? (i := 38) rfl)) rfl ?_
      refine sk_iadd hx hb (okL_law_12 (953, .iadd, 1) (List.mem_of_getElem? (i := 39) rfl)) ?_
      obtain ⟨hi113, hM⟩ := hM
      refine sk_sld hx hb hX hbl hbA hw.2 hXv hLL hi113 (okL_law_12 (954, .iaload, 1) (List.mem_of_getElem? (i := 40) rfl)) ?_
      refine sk_ci (sk_runV (a := 0) (C := RX11) (As := [.int (iI (X (v3 + 1)))]) (rest := []) S (c_Sky_who l G (hXr _) hM) sk_blind gL_law_X11_who rfl hdX11_who ⟨⟨rfl, rfl⟩, Nat.le_of_ble_eq_true rfl, Nat.le_of_ble_eq_true rfl⟩ (sk_recv hK hw kdn_0 (kd_in kdn_0) (by decide) rfl) (sk_pre hK hw) rfl hl.1 rfl (Nat.le_of_ble_eq_true rfl) (okL_law_12 (955, .invokevirtual 130, 3) (List.mem_of_getElem? (i := 41) rfl)) ⟨Nat.le_of_ble_eq_true rfl, Nat.le_of_ble_eq_true rfl⟩) hw (fun r_955 I_955 H locs hr_r_955 hM hw => ?_)
      refine lv_aload_n hx hb (okL_law_12 (958, .aload_n 2, 1) (List.mem_of_getElem? (i := 42) rfl)) rfl (lv_at hl 2 rfl) ?_
      refine lv_aload_n hx hb (okL_law_12 (959, .aload_n 0, 1) (List.mem_of_getElem? (i := 43) rfl)) rfl (lv_at hl 0 rfl) ?_
      refine lv_iload_n hx hb (okL_law_12 (960, .iload_n 3, 1) (List.mem_of_getElem? (i := 44) rfl)) rfl (lv_at hl 3 rfl) ?_
      refine lv_iconst (v := iI 1) hx hb (okL_law_12 (961, .iconst 1, 1) (List.mem_of_getElem? (i := 45) rfl)) rfl ?_
      refine sk_iadd hx hb (okL_law_12 (962, .iadd, 1) (List.mem_of_getElem? (i := 46) rfl)) ?_
      obtain ⟨hi114, hM⟩ := hM
      refine sk_sld hx hb hX hbl hbA hw.2 hXv hLL hi114 (okL_law_12 (963, .iaload, 1) (List.mem_of_getElem? (i := 47) rfl)) ?_
      refine sk_ci (sk_runV (a := 158) (C := RX12) (As := [.int (iI (X (v3 + 1)))]) (rest := [.int (iI r_955)]) S (c_Mo_who l G (hXr _) hM) sk_blind gL_law_X12_who rfl hdX12_who ⟨⟨rfl, rfl⟩, Nat.le_of_ble_eq_true rfl, Nat.le_of_ble_eq_true rfl⟩ (sk_recv hK hw kdn_158 (kd_in kdn_158) (by decide) rfl) (sk_pre hK hw) rfl hl.1 rfl (Nat.le_of_ble_eq_true rfl) (okL_law_12 (964, .invokevirtual 133, 3) (List.mem_of_getElem? (i := 48) rfl)) ⟨Nat.le_of_ble_eq_true rfl, Nat.le_of_ble_eq_true rfl⟩) hw (fun r_964 I_964 H locs hr_r_964 hM hw => ?_)
      refine sk_icmp_eq (tgt := 1008) hx hb hr_r_955 hr_r_964 (okL_law_12 (967, .if_icmp .eq 41, 3) (List.mem_of_getElem? (i := 49) rfl)) (by decide) (fun c967 => ?_) (fun c967 => ?_)
      · have hM := hM.1 c967
        obtain ⟨hr115, hM⟩ := hM
        obtain ⟨v3_1008, ev3_1008⟩ : ∃ y : Int, y = v3 + 6 := ⟨_, rfl⟩
        have hM := hM v3_1008 ev3_1008
        have hr_v3_1008 : rI v3_1008 := by rw [ev3_1008]; exact hr115
        refine lv_iinc (v := iI v3_1008) (lv' := [(3, .int (iI v3_1008)), (0, .ref b), (1, .ref (sk_ad G 0)), (2, .ref (sk_ad G 158))]) hx hb (okL_law_13 (1008, .iinc 3 6, 3) (List.mem_of_getElem? (i := 26) rfl)) hl (k := 3) rfl (by rw [ev3_1008]; exact iI_add _ _) (by decide) rfl (fun ls hl => ?_)
        refine lv_goto (tgt := 18) hx hb (okL_law_13 (1011, .goto (-993), 3) (List.mem_of_getElem? (i := 27) rfl)) (by decide) ?_
        exact (hX_18 v3_1008 I_964).1 hM hr_v3_1008 H locs ls hw (lv_sub hl [1, 2, 3, 0] rfl)
      · have hM := hM.2 c967
        refine lv_iconst (v := iI 0) hx hb (okL_law_13 (970, .iconst 0, 1) (List.mem_of_getElem? (i := 0) rfl)) rfl ?_
        exact hM.elim
    · have hM := hM.2.2.2.2.2.2.2.2.2.2.2.2.2.2.2.2.2.2.2.2.2.2.2.2.2.2.2.2.2.1 c33
      refine sk_tabIn (tgt := 972) (off := 939) hx hb (rI_of _) (by rw [c33]; decide) (by rw [c33]; rfl) (okL_law_0 (33, .tableswitch 975 0 29 #[135, 178, 241, 254, 297, 320, 343, 386, 429, 452, 485, 518, 541, 554, 567, 620, 653, 676, 689, 712, 725, 748, 771, 784, 827, 840, 903, 916, 939, 952], 135) (List.mem_of_getElem? (i := 21) rfl)) (by decide) ?_
      refine lv_aload_n hx hb (okL_law_13 (972, .aload_n 1, 1) (List.mem_of_getElem? (i := 2) rfl)) rfl (lv_at hl 1 rfl) ?_
      refine sk_ci (sk_runV (a := 0) (C := RX11) (As := []) (rest := []) S (c_Sky_wipe l G hM) sk_blind gL_law_X11_wipe rfl hdX11_wipe ⟨⟨rfl, rfl⟩, Nat.le_of_ble_eq_true rfl, Nat.le_of_ble_eq_true rfl⟩ (sk_recv hK hw kdn_0 (kd_in kdn_0) (by decide) rfl) (sk_pre hK hw) rfl hl.1 rfl (Nat.le_of_ble_eq_true rfl) (okL_law_13 (973, .invokevirtual 134, 3) (List.mem_of_getElem? (i := 3) rfl)) ⟨Nat.le_of_ble_eq_true rfl, Nat.le_of_ble_eq_true rfl⟩) hw (fun r_973 I_973 H locs hr_r_973 hM hw => ?_)
      refine lv_aload_n hx hb (okL_law_13 (976, .aload_n 2, 1) (List.mem_of_getElem? (i := 4) rfl)) rfl (lv_at hl 2 rfl) ?_
      refine sk_ci (sk_runV (a := 158) (C := RX12) (As := []) (rest := [.int (iI r_973)]) S (c_Mo_wipe l G hM) sk_blind gL_law_X12_wipe rfl hdX12_wipe ⟨⟨rfl, rfl⟩, Nat.le_of_ble_eq_true rfl, Nat.le_of_ble_eq_true rfl⟩ (sk_recv hK hw kdn_158 (kd_in kdn_158) (by decide) rfl) (sk_pre hK hw) rfl hl.1 rfl (Nat.le_of_ble_eq_true rfl) (okL_law_13 (977, .invokevirtual 137, 3) (List.mem_of_getElem? (i := 5) rfl)) ⟨Nat.le_of_ble_eq_true rfl, Nat.le_of_ble_eq_true rfl⟩) hw (fun r_977 I_977 H locs hr_r_977 hM hw => ?_)
      refine sk_icmp_eq (tgt := 1008) hx hb hr_r_973 hr_r_977 (okL_law_13 (980, .if_icmp .eq 28, 3) (List.mem_of_getElem? (i := 6) rfl)) (by decide) (fun c980 => ?_) (fun c980 => ?_)
      · have hM := hM.1 c980
        obtain ⟨hr116, hM⟩ := hM
        obtain ⟨v3_1008, ev3_1008⟩ : ∃ y : Int, y = v3 + 6 := ⟨_, rfl⟩
        have hM := hM v3_1008 ev3_1008
        have hr_v3_1008 : rI v3_1008 := by rw [ev3_1008]; exact hr116
        refine lv_iinc (v := iI v3_1008) (lv' := [(3, .int (iI v3_1008)), (0, .ref b), (1, .ref (sk_ad G 0)), (2, .ref (sk_ad G 158))]) hx hb (okL_law_13 (1008, .iinc 3 6, 3) (List.mem_of_getElem? (i := 26) rfl)) hl (k := 3) rfl (by rw [ev3_1008]; exact iI_add _ _) (by decide) rfl (fun ls hl => ?_)
        refine lv_goto (tgt := 18) hx hb (okL_law_13 (1011, .goto (-993), 3) (List.mem_of_getElem? (i := 27) rfl)) (by decide) ?_
        exact (hX_18 v3_1008 I_977).1 hM hr_v3_1008 H locs ls hw (lv_sub hl [1, 2, 3, 0] rfl)
      · have hM := hM.2 c980
        refine lv_iconst (v := iI 0) hx hb (okL_law_13 (983, .iconst 0, 1) (List.mem_of_getElem? (i := 7) rfl)) rfl ?_
        exact hM.elim
    · have hM := hM.2.2.2.2.2.2.2.2.2.2.2.2.2.2.2.2.2.2.2.2.2.2.2.2.2.2.2.2.2.2 c33
      refine sk_tabIn (tgt := 985) (off := 952) hx hb (rI_of _) (by rw [c33]; decide) (by rw [c33]; rfl) (okL_law_0 (33, .tableswitch 975 0 29 #[135, 178, 241, 254, 297, 320, 343, 386, 429, 452, 485, 518, 541, 554, 567, 620, 653, 676, 689, 712, 725, 748, 771, 784, 827, 840, 903, 916, 939, 952], 135) (List.mem_of_getElem? (i := 21) rfl)) (by decide) ?_
      refine lv_aload_n hx hb (okL_law_13 (985, .aload_n 1, 1) (List.mem_of_getElem? (i := 9) rfl)) rfl (lv_at hl 1 rfl) ?_
      refine lv_aload_n hx hb (okL_law_13 (986, .aload_n 0, 1) (List.mem_of_getElem? (i := 10) rfl)) rfl (lv_at hl 0 rfl) ?_
      refine lv_iload_n hx hb (okL_law_13 (987, .iload_n 3, 1) (List.mem_of_getElem? (i := 11) rfl)) rfl (lv_at hl 3 rfl) ?_
      refine lv_iconst (v := iI 1) hx hb (okL_law_13 (988, .iconst 1, 1) (List.mem_of_getElem? (i := 12) rfl)) rfl ?_
      refine sk_iadd hx hb (okL_law_13 (989, .iadd, 1) (List.mem_of_getElem? (i := 13) rfl)) ?_
      obtain ⟨hi117, hM⟩ := hM
      refine sk_sld hx hb hX hbl hbA hw.2 hXv hLL hi117 (okL_law_13 (990, .iaload, 1) (List.mem_of_getElem? (i := 14) rfl)) ?_
      refine sk_ci (sk_runV (a := 0) (C := RX11) (As := [.int (iI (X (v3 + 1)))]) (rest := []) S (c_Sky_count l G (hXr _) hM) sk_blind gL_law_X11_count rfl hdX11_count ⟨⟨rfl, rfl⟩, Nat.le_of_ble_eq_true rfl, Nat.le_of_ble_eq_true rfl⟩ (sk_recv hK hw kdn_0 (kd_in kdn_0) (by decide) rfl) (sk_pre hK hw) rfl hl.1 rfl (Nat.le_of_ble_eq_true rfl) (okL_law_13 (991, .invokevirtual 138, 3) (List.mem_of_getElem? (i := 15) rfl)) ⟨Nat.le_of_ble_eq_true rfl, Nat.le_of_ble_eq_true rfl⟩) hw (fun r_991 I_991 H locs hr_r_991 hM hw => ?_)
      refine lv_aload_n hx hb (okL_law_13 (994, .aload_n 2, 1) (List.mem_of_getElem? (i := 16) rfl)) rfl (lv_at hl 2 rfl) ?_
      refine lv_aload_n hx hb (okL_law_13 (995, .aload_n 0, 1) (List.mem_of_getElem? (i := 17) rfl)) rfl (lv_at hl 0 rfl) ?_
      refine lv_iload_n hx hb (okL_law_13 (996, .iload_n 3, 1) (List.mem_of_getElem? (i := 18) rfl)) rfl (lv_at hl 3 rfl) ?_
      refine lv_iconst (v := iI 1) hx hb (okL_law_13 (997, .iconst 1, 1) (List.mem_of_getElem? (i := 19) rfl)) rfl ?_
      refine sk_iadd hx hb (okL_law_13 (998, .iadd, 1) (List.mem_of_getElem? (i := 20) rfl)) ?_
      obtain ⟨hi118, hM⟩ := hM
      refine sk_sld hx hb hX hbl hbA hw.2 hXv hLL hi118 (okL_law_13 (999, .iaload, 1) (List.mem_of_getElem? (i := 21) rfl)) ?_
      refine sk_ci (sk_runV (a := 158) (C := RX12) (As := [.int (iI (X (v3 + 1)))]) (rest := [.int (iI r_991)]) S (c_Mo_count l G (hXr _) hM) sk_blind gL_law_X12_count rfl hdX12_count ⟨⟨rfl, rfl⟩, Nat.le_of_ble_eq_true rfl, Nat.le_of_ble_eq_true rfl⟩ (sk_recv hK hw kdn_158 (kd_in kdn_158) (by decide) rfl) (sk_pre hK hw) rfl hl.1 rfl (Nat.le_of_ble_eq_true rfl) (okL_law_13 (1000, .invokevirtual 141, 3) (List.mem_of_getElem? (i := 22) rfl)) ⟨Nat.le_of_ble_eq_true rfl, Nat.le_of_ble_eq_true rfl⟩) hw (fun r_1000 I_1000 H locs hr_r_1000 hM hw => ?_)
      refine sk_icmp_eq (tgt := 1008) hx hb hr_r_991 hr_r_1000 (okL_law_13 (1003, .if_icmp .eq 5, 3) (List.mem_of_getElem? (i := 23) rfl)) (by decide) (fun c1003 => ?_) (fun c1003 => ?_)
      · have hM := hM.1 c1003
        obtain ⟨hr119, hM⟩ := hM
        obtain ⟨v3_1008, ev3_1008⟩ : ∃ y : Int, y = v3 + 6 := ⟨_, rfl⟩
        have hM := hM v3_1008 ev3_1008
        have hr_v3_1008 : rI v3_1008 := by rw [ev3_1008]; exact hr119
        refine lv_iinc (v := iI v3_1008) (lv' := [(3, .int (iI v3_1008)), (0, .ref b), (1, .ref (sk_ad G 0)), (2, .ref (sk_ad G 158))]) hx hb (okL_law_13 (1008, .iinc 3 6, 3) (List.mem_of_getElem? (i := 26) rfl)) hl (k := 3) rfl (by rw [ev3_1008]; exact iI_add _ _) (by decide) rfl (fun ls hl => ?_)
        refine lv_goto (tgt := 18) hx hb (okL_law_13 (1011, .goto (-993), 3) (List.mem_of_getElem? (i := 27) rfl)) (by decide) ?_
        exact (hX_18 v3_1008 I_1000).1 hM hr_v3_1008 H locs ls hw (lv_sub hl [1, 2, 3, 0] rfl)
      · have hM := hM.2 c1003
        refine lv_iconst (v := iI 0) hx hb (okL_law_13 (1006, .iconst 0, 1) (List.mem_of_getElem? (i := 24) rfl)) rfl ?_
        exact hM.elim
