set_option maxHeartbeats 8000000 in
set_option maxRecDepth 100000 in
/-- what the tables say of the classes, the arrays and the nest mates, at the law's entry -/
theorem law_known {s : State} {b : Addr} (hts : ∀ w ∈ lw_tbl, w.before #[Value.ref b] s = true) : ∃ G : sk_G, G.2.2.2.2 = s.heap.size ∧ sk_K G s := by
  obtain ⟨c0, i0, hk0⟩ := u_known (C := RX0) (T := TX0) (N := 4) (n := 4) hts inX0 (hts (.instantiable RX0 4) (by decide +kernel))
  obtain ⟨c1, i1, hk1⟩ := u_known (C := RX1) (T := TX1) (N := 7) (n := 7) hts inX1 (hts (.instantiable RX1 7) (by decide +kernel))
  obtain ⟨c2, i2, hk2⟩ := u_known (C := RX2) (T := TX2) (N := 4) (n := 4) hts inX2 (hts (.instantiable RX2 4) (by decide +kernel))
  obtain ⟨c3, i3, hk3⟩ := u_known (C := RX3) (T := TX3) (N := 6) (n := 6) hts inX3 (hts (.instantiable RX3 6) (by decide +kernel))
  obtain ⟨c4, i4, hk4⟩ := u_known (C := RX4) (T := TX4) (N := 3) (n := 3) hts inX4 (hts (.instantiable RX4 3) (by decide +kernel))
  obtain ⟨c5, i5, hk5⟩ := u_known (C := RX5) (T := TX5) (N := 2) (n := 2) hts inX5 (hts (.instantiable RX5 2) (by decide +kernel))
  obtain ⟨c6, i6, hk6⟩ := u_known (C := RX6) (T := TX6) (N := 3) (n := 3) hts inX6 (hts (.instantiable RX6 3) (by decide +kernel))
  obtain ⟨c7, i7, hk7⟩ := u_known (C := RX7) (T := TX7) (N := 1) (n := 1) hts inX7 (hts (.instantiable RX7 1) (by decide +kernel))
  obtain ⟨c8, i8, hk8⟩ := u_known (C := RX8) (T := TX8) (N := 5) (n := 5) hts inX8 (hts (.instantiable RX8 5) (by decide +kernel))
  obtain ⟨c9, i9, hk9⟩ := u_known (C := RX9) (T := TX9) (N := 5) (n := 5) hts inX9 (hts (.instantiable RX9 5) (by decide +kernel))
  obtain ⟨c10, i10, hk10⟩ := u_known (C := RX10) (T := TX10) (N := 4) (n := 4) hts inX10 (hts (.instantiable RX10 4) (by decide +kernel))
  obtain ⟨c11, i11, hk11⟩ := u_known (C := RX11) (T := TX11) (N := 8) (n := 8) hts inX11 (hts (.instantiable RX11 8) (by decide +kernel))
  obtain ⟨c12, i12, hk12⟩ := u_known (C := RX12) (T := TX12) (N := 53) (n := 53) hts inX12 (hts (.instantiable RX12 53) (by decide +kernel))
  obtain ⟨cI, kI, compI, hI1, hI2, hI3⟩ := Cond.arrayClass_spec (hts (.arrayClass .int) (by decide +kernel))
  obtain ⟨compP, cP, kP, hP1, hP2, hP3, hP4, hP5⟩ := Cond.arrayOver_spec (hts (.arrayOver (.object "SkyLights$Places")) (by decide +kernel))
  obtain ⟨compS, cS, kS, hS1, hS2, hS3, hS4, hS5⟩ := Cond.arrayOver_spec (hts (.arrayOver (.object "SkyLights$Scene")) (by decide +kernel))
  refine ⟨((fun k => if k = 0 then c0 else if k = 1 then c1 else if k = 2 then c2 else if k = 3 then c3 else if k = 4 then c4 else if k = 5 then c5 else if k = 6 then c6 else if k = 7 then c7 else if k = 8 then c8 else if k = 9 then c9 else if k = 10 then c10 else if k = 11 then c11 else c12, fun k => if k = 0 then i0 else if k = 1 then i1 else if k = 2 then i2 else if k = 3 then i3 else if k = 4 then i4 else if k = 5 then i5 else if k = 6 then i6 else if k = 7 then i7 else if k = 8 then i8 else if k = 9 then i9 else if k = 10 then i10 else if k = 11 then i11 else i12), cI, cP, cS, s.heap.size), rfl, ⟨?_, ?_⟩, ?_, ?_, ?_, ?_⟩
  · intro k q hq
    match k, hq with
    | 0, hq => cases hq; exact hk0
    | 1, hq => cases hq; exact hk1
    | 2, hq => cases hq; exact hk2
    | 3, hq => cases hq; exact hk3
    | 4, hq => cases hq; exact hk4
    | 5, hq => cases hq; exact hk5
    | 6, hq => cases hq; exact hk6
    | 7, hq => cases hq; exact hk7
    | 8, hq => cases hq; exact hk8
    | 9, hq => cases hq; exact hk9
    | 10, hq => cases hq; exact hk10
    | 11, hq => cases hq; exact hk11
    | 12, hq => cases hq; exact hk12
    | k + 13, hq => simp [vwCl] at hq
  · intro k q hq
    match k, hq with
    | 0, hq => cases hq; exact ⟨fun n z => ⟨fun k h => (by cases h), kI, hI2, compI, hI3⟩, hI1⟩
    | 1, hq => cases hq; exact ⟨fun n z => ⟨fun k h => (by cases h), kP, hP3, compP, hP4⟩, kP, compP, hP3, hP4, hP1, hP5⟩
    | 2, hq => cases hq; exact ⟨fun n z => ⟨fun k h => (by cases h), kS, hS3, compS, hS4⟩, kS, compS, hS3, hS4, hS1, hS5⟩
    | k + 3, hq => simp [sk_tys] at hq
  · have h : ∀ q ∈ sk_nfL, Cond.fieldLinkNest q.1 q.2.1 q.2.2.1 q.2.2.2.1 q.2.2.2.2 "SkyLights" ∈ lw_tbl := by decide +kernel
    exact fun q hq => va_Nw.of rfl (hts _ (h q hq))
  · have h : ∀ q ∈ sk_nmL, Cond.methodLinkNest q.1 q.2.1 q.2.2 "SkyLights" ∈ lw_tbl := by decide +kernel
    exact fun q hq => va_Nw.of rfl (hts _ (h q hq))
  · exact va_AO.of (hts (.arrayOver (.object "SkyLights$Places")) (by decide +kernel))
  · exact va_AO.of (hts (.arrayOver (.object "SkyLights$Scene")) (by decide +kernel))
set_option maxHeartbeats 8000000 in
set_option maxRecDepth 100000 in
/-- the law from its entry, out of the pure statement -/
theorem whole_pure (hpure : ∀ (X : Int → Int) (LL : Int), (∀ i, rI (X i)) → 0 ≤ LL → LL ≤ 3072 → L_law_18 X LL 0 I0) {p : Program} {e : Env} {s : State} {m : MethodId} {below : List Frame} {meth : Method} {c : Code} (l : Launch) {b L : Nat} {xs : Nat → Int32} (hL : L ≤ 3072) (C0 : lw_At p s m meth c b L xs) : W p l e room_1 s m #[Value.ref b] below meth c s.heap [] 0 0 (lw_Z below #[Value.ref b] s) (entryFrame m ([Value.ref b] : List Value).toArray 4) := by
  obtain ⟨hx, hb, hr, hml, hown, hts0, hX, hbl, hlocks, hgv⟩ := id C0
  obtain ⟨G, hG, hK⟩ := law_known hts0
  have hts : ∀ w ∈ wsL_law, w.before #[Value.ref b] s = true := fun w h => hts0 w (wsL_law_in w h)
  have S : CallFix p m c code 4 s #[Value.ref b] wsL_law RL := ⟨hx, hb, hml, hown, hts⟩
  have hS : va_S (sk_A G) s.heap s.heap [] := va_S.rf
  obtain ⟨B0, hB0⟩ : ∃ B : Int → Int → Bool, ∀ x k, B x k = false := ⟨fun _ _ => false, fun _ _ => rfl⟩
  have hw : cw G 0 B0 s.heap := ⟨by rw [hG]; rfl, fun i hi => absurd hi (Nat.not_lt_zero i), cI_r _⟩
  have hl := lv_entry ([.ref b]) (n := 4) (Nat.le_of_ble_eq_true rfl)
  rw [lg_entry_eq]
  generalize (lg_sl ([.ref b]) ++ List.replicate (4 - (lg_sl ([.ref b])).length) Slot.unset).toArray = ls at hl ⊢
  have hl : lv_has ls 4 [(0, .ref b)] := hl
  refine sk_new (n := 0) (ci := 11) S hK hw hS (fun x q h => hB0 x q) (C := RX11) (T := TX11) (N := 8) rfl inlX11 tyX11 tyX11_ok ⟨by decide +kernel, rfl, by decide⟩ (by decide) (hts (.classLink RL 7 RX11) (by decide +kernel)) (hts (.instantiable RX11 8) (by decide +kernel)) (hts (.initialized RX11) (by decide +kernel)) ⟨Nat.le_of_ble_eq_true rfl, Nat.le_of_ble_eq_true rfl⟩ (okL_law_0 (0, .new 7, 3) (List.mem_of_getElem? (i := 0) rfl)) (fun H hw hS => ?_)
  refine lv_dup hx hb (okL_law_0 (3, .dup, 1) (List.mem_of_getElem? (i := 1) rfl)) rfl ?_
  refine cU_cv (va_runI (As := []) (rest := [.ref (sk_ad G 0)]) S (c_Sky_init l G (fun x q h => hB0 x q)) (cwI 0 hts gL_law_X11_init rfl rfl rfl (hts (.initialized RX11) (by decide +kernel)) (hts (.methodLink RL 9 yX11_init) (by decide +kernel)) (hts (.instanceMethod yX11_init) (by decide +kernel)) rfl (by decide +kernel) ⟨Nat.le_of_ble_eq_true rfl, Nat.le_of_ble_eq_true rfl⟩) ⟨cU_blind, cU_pre hK hw⟩ rfl rfl hl.1 rfl (lv_room (Nat.le_of_ble_eq_true rfl)) (okL_law_0 (4, .invokespecial 9, 3) (List.mem_of_getElem? (i := 2) rfl)) ⟨Nat.le_of_ble_eq_true rfl, Nat.le_of_ble_eq_true rfl⟩) hS (fun H locs hw hS => ?_)
  refine lv_astore_n (lv' := [(1, .ref (sk_ad G 0)), (0, .ref b)]) hx hb (okL_law_0 (7, .astore_n 1, 1) (List.mem_of_getElem? (i := 3) rfl)) rfl hl (by decide) rfl (fun ls hl => ?_)
  refine sk_new (n := 158) (ci := 12) S hK hw hS (fun x q h => (bx_o (by omega)).trans (hB0 x q)) (C := RX12) (T := TX12) (N := 53) rfl inlX12 tyX12 tyX12_ok ⟨by decide +kernel, rfl, by decide⟩ (by decide) (hts (.classLink RL 10 RX12) (by decide +kernel)) (hts (.instantiable RX12 53) (by decide +kernel)) (hts (.initialized RX12) (by decide +kernel)) ⟨Nat.le_of_ble_eq_true rfl, Nat.le_of_ble_eq_true rfl⟩ (okL_law_0 (8, .new 10, 3) (List.mem_of_getElem? (i := 4) rfl)) (fun H hw hS => ?_)
  refine lv_dup hx hb (okL_law_0 (11, .dup, 1) (List.mem_of_getElem? (i := 5) rfl)) rfl ?_
  refine cU_cv (va_runI (As := []) (rest := [.ref (sk_ad G 158)]) S (c_Mo_init l G (fun x q h => (bx_o (by omega)).trans (hB0 x q))) (cwI 0 hts gL_law_X12_init rfl rfl rfl (hts (.initialized RX12) (by decide +kernel)) (hts (.methodLink RL 12 yX12_init) (by decide +kernel)) (hts (.instanceMethod yX12_init) (by decide +kernel)) rfl (by decide +kernel) ⟨Nat.le_of_ble_eq_true rfl, Nat.le_of_ble_eq_true rfl⟩) ⟨cU_blind, cU_pre hK hw⟩ rfl rfl hl.1 rfl (lv_room (Nat.le_of_ble_eq_true rfl)) (okL_law_0 (12, .invokespecial 12, 3) (List.mem_of_getElem? (i := 6) rfl)) ⟨Nat.le_of_ble_eq_true rfl, Nat.le_of_ble_eq_true rfl⟩) hS (fun H locs hw hS => ?_)
  refine lv_astore_n (lv' := [(2, .ref (sk_ad G 158)), (1, .ref (sk_ad G 0)), (0, .ref b)]) hx hb (okL_law_0 (15, .astore_n 2, 1) (List.mem_of_getElem? (i := 7) rfl)) rfl hl (by decide) rfl (fun ls hl => ?_)
  refine lv_iconst (v := iI 0) hx hb (okL_law_0 (16, .iconst 0, 1) (List.mem_of_getElem? (i := 8) rfl)) rfl ?_
  refine lv_istore_n (lv' := [(3, .int (iI 0)), (2, .ref (sk_ad G 158)), (1, .ref (sk_ad G 0)), (0, .ref b)]) hx hb (okL_law_0 (17, .istore_n 3, 1) (List.mem_of_getElem? (i := 9) rfl)) rfl hl (by decide) rfl (fun ls hl => ?_)
  have hB1 : ∀ i : Nat, i < 198 → ∀ k : Int, bx (bx B0 0 158) 158 198 i k = true := fun i hi k => by
    rcases Nat.lt_or_ge i 158 with h | h
    · exact bx_m (bx_h (by omega))
    · exact bx_h (by omega)
  have hw1 : sk_W G 198 sk_t I0 s H locs := ⟨sk_H.cong hw (fun i hi k _ => hB1 i hi k) (fun i hi k => by unfold cI; rw [hB1 i hi k, if_pos rfl]) I0_r, hS⟩
  refine W.widen (k := 198) (n := 8659) (Nat.le_of_ble_eq_true rfl) (Nat.le_of_ble_eq_true rfl) ?_
  exact law_loop l G (fun i => (xs i.toNat).toInt) (L : Int) hx hb hr hml hown hts hX hbl hlocks hK hG (fun i => by show iI (xs (i : Int).toNat).toInt = xs i; rw [iI_of, Int.toNat_natCast]) (fun i => rI_of _) ⟨rfl, by omega⟩ 0 I0 (by decide) (hpure _ _ (fun i => rI_of _) (by omega) (by omega)) H locs ls hw1 (lv_sub hl [3, 2, 1, 0] rfl)
