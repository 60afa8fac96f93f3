/-! ===== the world: every cell at its place from the base on ===== -/
abbrev sk_G : Type := va_G × ClassId × ClassId × ClassId × Nat
def sk_ad (G : sk_G) (a : Int) : Nat := G.2.2.2.2 + a.toNat
def sk_A (G : sk_G) : Nat → Prop := fun q => G.2.2.2.2 ≤ q
def sk_tys (G : sk_G) : List (ClassId × FieldType) := [(G.2.1, .int), (G.2.2.1, .object "SkyLights$Places"), (G.2.2.2.1, .object "SkyLights$Scene")]
def sk_nfL : List (String × Nat × String × String × String) := [("SkyLights", 134, "SkyLights$Air", "gap", "I"), ("SkyLights", 138, "SkyLights$Air", "zoneX", "I"), ("SkyLights", 141, "SkyLights$Air", "zoneY", "I"), ("SkyLights", 144, "SkyLights$Air", "radius", "I"), ("SkyLights", 188, "SkyLights$Scene", "hold", "I"), ("SkyLights", 193, "SkyLights$Scene", "cue", "I"), ("SkyLights", 196, "SkyLights$Scene", "figure", "I"), ("SkyLights", 199, "SkyLights$Scene", "way", "LSkyLights$Pass;"), ("SkyLights", 205, "SkyLights$Scene", "home", "LSkyLights$Pass;"), ("SkyLights", 226, "SkyLights$Show", "margin", "I"), ("SkyLights", 253, "SkyLights$Foreign", "one", "I"), ("SkyLights", 256, "SkyLights$Foreign", "other", "I"), ("SkyLights$Foreign", 81, "SkyLights$Air", "gap", "I"), ("SkyLights$Pass", 68, "SkyLights$Air", "gap", "I"), ("SkyLights$Show", 46, "SkyLights$Scene", "figure", "I"), ("SkyLights$Show", 49, "SkyLights$Scene", "way", "LSkyLights$Pass;"), ("SkyLights$Show", 59, "SkyLights$Scene", "home", "LSkyLights$Pass;"), ("SkyLights$Show", 76, "SkyLights$Scene", "hold", "I"), ("SkyLights$Show", 79, "SkyLights$Scene", "cue", "I")]
def sk_nmL : List (String × Nat × MethodName) := [("SkyLights", 25, ⟨"SkyLights$Air", "<init>", "()V"⟩), ("SkyLights", 32, ⟨"SkyLights$Planner", "<init>", "()V"⟩), ("SkyLights", 39, ⟨"SkyLights$Pass", "<init>", "()V"⟩), ("SkyLights", 46, ⟨"SkyLights$Parting", "<init>", "()V"⟩), ("SkyLights", 9, ⟨"SkyLights$Tape", "<init>", "()V"⟩), ("SkyLights$Gallery", 11, ⟨"SkyLights$Places", "<init>", "()V"⟩), ("SkyLights$Scene", 9, ⟨"SkyLights$Pass", "<init>", "()V"⟩), ("SkyLights$Show", 17, ⟨"SkyLights$Scene", "<init>", "()V"⟩)]
/-- private members of a nest mate: what the tables say of their links -/
def sk_N (U : State) : Prop := (∀ q ∈ sk_nfL, va_Nw (.fieldLinkNest q.1 q.2.1 q.2.2.1 q.2.2.2.1 q.2.2.2.2 "SkyLights") U) ∧ (∀ q ∈ sk_nmL, va_Nw (.methodLinkNest q.1 q.2.1 q.2.2 "SkyLights") U) ∧ va_AO "SkyLights$Places" U ∧ va_AO "SkyLights$Scene" U
theorem sk_N.warm {s U : State} (hW : s.WarmedH U.vm) (h : sk_N s) : sk_N U := ⟨fun q hq => va_Nw.warmF hW (h.1 q hq), fun q hq => va_Nw.warmM hW (h.2.1 q hq), va_AO.moved hW.alike h.2.2.1, va_AO.moved hW.alike h.2.2.2⟩
theorem sk_N.same {u U : State} (hv : u.vm = U.vm) (h : sk_N u) : sk_N U := ⟨fun q hq => va_Nw.same rfl hv (h.1 q hq), fun q hq => va_Nw.same rfl hv (h.2.1 q hq), va_AO.moved (by rw [hv]; exact Vm.Alike.refl U.vm) h.2.2.1, va_AO.moved (by rw [hv]; exact Vm.Alike.refl U.vm) h.2.2.2⟩
def sk_K (G : sk_G) (U : State) : Prop := va_K G.1 vwCl (sk_tys G) U ∧ sk_N U
theorem sk_K.moved {G : sk_G} {s U : State} (hW : s.WarmedH U.vm) (h : sk_K G s) : sk_K G U := ⟨va_K.moved hW.alike h.1, h.2.warm hW⟩
def fld (G : sk_G) (B : Int → Int → Bool) (J : Int → Int) (a : Int) (k : Nat) : Value := if isr (kd a) k = true then (if B a k = true then .ref (sk_ad G (rf a k)) else .null) else .int (iI (J k))
def sk_c (G : sk_G) (B : Int → Int → Bool) (J : Int → Int) (i : Nat) (H : Heap) : Prop :=
  (kd i < 13 → t_OB (G.2.2.2.2 + i) (G.1.1 (kd i)) (nf (kd i)) (G.1.2 (kd i)) H (fld G B J i)) ∧
  (kd i = 13 → H[G.2.2.2.2 + i]? = some (arrV G.2.1 (ln i).toNat (fun j => .int (iI (J j))))) ∧
  (kd i = 14 → H[G.2.2.2.2 + i]? = some (arrV G.2.2.1 (ln i).toNat (fun j => if B i j = true then .ref (sk_ad G (rf i j)) else .null))) ∧
  (kd i = 15 → H[G.2.2.2.2 + i]? = some (arrV G.2.2.2.1 (ln i).toNat (fun j => if B i j = true then .ref (sk_ad G (rf i j)) else .null)))
def sk_H (G : sk_G) (n : Nat) (B : Int → Int → Bool) (I : Int → Int → Int) (H : Heap) : Prop := H.size = G.2.2.2.2 + n ∧ (∀ i : Nat, i < n → sk_c G B (I i) i H) ∧ ∀ a k, rI (I a k)
def sk_W (G : sk_G) (n : Nat) (B : Int → Int → Bool) (I : Int → Int → Int) (s : State) (H : Heap) (locs : List Loc) : Prop := sk_H G n B I H ∧ va_S (sk_A G) s.heap H locs
def sk_U (G : sk_G) (n : Nat) (B : Int → Int → Bool) (I : Int → Int → Int) (U : State) : Prop := sk_H G n B I U.heap ∧ sk_K G U
def sk_t : Int → Int → Bool := fun _ _ => true
theorem sk_c.kept {G : sk_G} {B : Int → Int → Bool} {J : Int → Int} {i : Nat} {H H1 : Heap} (h : sk_c G B J i H) (hq : H1[G.2.2.2.2 + i]? = H[G.2.2.2.2 + i]?) : sk_c G B J i H1 :=
  ⟨fun q => (h.1 q).kept hq, fun q => hq.trans (h.2.1 q), fun q => hq.trans (h.2.2.1 q), fun q => hq.trans (h.2.2.2 q)⟩
theorem up_self (I : Int → Int → Int) (a k v : Int) : up I a k v a k = v := by simp [up]
theorem up_cell (I : Int → Int → Int) (a k v b : Int) (h : b ≠ a) : up I a k v b = I b := by funext j; simp [up, h]
theorem up_rI {I : Int → Int → Int} {a k v : Int} (h : ∀ a k, rI (I a k)) (hv : rI v) : ∀ b j, rI (up I a k v b j) := by
  intro b j
  unfold up
  split
  · exact hv
  · exact h b j
/-- one cell is written anew -/
theorem sk_H.set {G : sk_G} {n : Nat} {B : Int → Int → Bool} {I : Int → Int → Int} {H H1 : Heap} {i : Nat} {k v : Int} (h : sk_H G n B I H) (hi : i < n) (hv : rI v) (z : H1.size = H.size) (oq : ∀ q : Nat, q ≠ G.2.2.2.2 + i → H1[q]? = H[q]?) (hc : sk_c G B (up I i k v i) i H1) : sk_H G n B (up I i k v) H1 := by
  refine ⟨z.trans h.1, fun j hj => ?_, up_rI h.2.2 hv⟩
  by_cases e : j = i
  · subst e; exact hc
  · rw [up_cell _ _ _ _ _ (by omega)]
    exact (h.2.1 j hj).kept (oq _ (by omega))
section SKR
variable {p : Program} {l : Launch} {e : Env} {R : Room} {s : State} {m : MethodId} {args : Array Value} {below : List Frame} {meth : Method} {c : Code} {H : Heap} {locs : List Loc} {cells slots : Nat} {Q : State → Prop}
variable {cc : ByteArray} {pc nL : Nat} {ls : Array Slot} {rest : List Value} {Ts : List Cond} {own : String} {G : sk_G} {n : Nat} {B : Int → Int → Bool} {I : Int → Int → Int} {a : Int} {ci : Nat}
theorem sk_get (S : CallFix p m c cc nL s args Ts own) (hK : sk_K G s) (hw : sk_W G n B I s H locs) (hk : kd a = ci) (ha : 0 ≤ a ∧ a < n) {C ref : String} {T : u_T} {N index : Nat} (hc : vwCl[ci]? = some (C, T, N)) (hin : ∀ w ∈ u_ws C T N, w ∈ Ts) (k : Nat) (hf : k < N ∧ nf ci = N ∧ ci < 13 ∧ ref = (T k).1) (hlink : (Cond.fieldLink own index ref (T k).2.1 (T k).2.2.1).before args s = true) (hdg : decode cc pc = .ok (.getfield index, 3))
    (kk : W p l e R s m args below meth c H locs cells slots Q (F0 m (pc + 3) ls (fld G B (I a) a k :: rest))) : W p l e R s m args below meth c H locs cells slots Q (F0 m pc ls (.ref (sk_ad G a) :: rest)) := by
  obtain ⟨hexec, hb, -, hown, hts⟩ := S
  obtain ⟨i, rfl⟩ : ∃ i : Nat, a = i := ⟨a.toNat, by omega⟩
  subst hk
  obtain ⟨f1, f2, f3, f4⟩ := hf
  subst f4
  obtain ⟨cell, q1, q2, q3, q4⟩ := (hw.1.2.1 i (by omega)).1 f3
  obtain ⟨hS, hfc, kC, hkC, hkind⟩ := hK.1.1 _ _ hc
  obtain ⟨cf, kf, fi, f, hi, hsl⟩ := hS k f1
  refine W.getf (v := fld G B (I i) i k) hexec hb hown hlink hi (u_facts hfc hkC (u_lays hts hin f1) hi).1 q1 (by rw [q3]; exact fun h => by cases h) ?_ rfl rfl hdg kk
  rw [hsl]
  exact q4 k (by rw [f2]; exact f1)
theorem sk_geti (S : CallFix p m c cc nL s args Ts own) (hK : sk_K G s) (hw : sk_W G n B I s H locs) (hk : kd a = ci) (ha : 0 ≤ a ∧ a < n) {C ref : String} {T : u_T} {N index : Nat} (hc : vwCl[ci]? = some (C, T, N)) (hin : ∀ w ∈ u_ws C T N, w ∈ Ts) (k : Nat) (hf : k < N ∧ nf ci = N ∧ ci < 13 ∧ ref = (T k).1) (hr : isr ci k = false) {k' : Int} (hk' : (k : Int) = k') (hlink : (Cond.fieldLink own index ref (T k).2.1 (T k).2.2.1).before args s = true) (hdg : decode cc pc = .ok (.getfield index, 3))
    (kk : W p l e R s m args below meth c H locs cells slots Q (F0 m (pc + 3) ls (.int (iI (I a k')) :: rest))) : W p l e R s m args below meth c H locs cells slots Q (F0 m pc ls (.ref (sk_ad G a) :: rest)) := by
  refine sk_get S hK hw hk ha hc hin k hf hlink hdg ?_
  rw [show fld G B (I a) a k = .int (iI (I a k')) from by unfold fld; rw [hk, hr]; subst hk'; simp]
  exact kk
theorem sk_getr (S : CallFix p m c cc nL s args Ts own) (hK : sk_K G s) (hw : sk_W G n B I s H locs) (hk : kd a = ci) (ha : 0 ≤ a ∧ a < n) {C ref : String} {T : u_T} {N index : Nat} (hc : vwCl[ci]? = some (C, T, N)) (hin : ∀ w ∈ u_ws C T N, w ∈ Ts) (k : Nat) (hf : k < N ∧ nf ci = N ∧ ci < 13 ∧ ref = (T k).1) (hr : isr ci k = true) {k' b : Int} (hk' : (k : Int) = k') (hB : B a k' = true) (hrf : rf a k' = b) (hlink : (Cond.fieldLink own index ref (T k).2.1 (T k).2.2.1).before args s = true) (hdg : decode cc pc = .ok (.getfield index, 3))
    (kk : W p l e R s m args below meth c H locs cells slots Q (F0 m (pc + 3) ls (.ref (sk_ad G b) :: rest))) : W p l e R s m args below meth c H locs cells slots Q (F0 m pc ls (.ref (sk_ad G a) :: rest)) := by
  refine sk_get S hK hw hk ha hc hin k hf hlink hdg ?_
  rw [show fld G B (I a) a k = .ref (sk_ad G b) from by unfold fld; rw [hk, hr]; subst hk'; rw [if_pos rfl, hB, if_pos rfl, hrf]]
  exact kk
theorem sk_put (S : CallFix p m c cc nL s args Ts own) (hK : sk_K G s) (hw : sk_W G n B I s H locs) (hk : kd a = ci) (ha : 0 ≤ a ∧ a < n) {C ref : String} {T : u_T} {N index : Nat} (hc : vwCl[ci]? = some (C, T, N)) (hin : ∀ w ∈ u_ws C T N, w ∈ Ts) (ty0 : Nat → FieldType) (hty : ∀ k, k < N → parseFieldDescriptor (T k).2.2.1 = some (ty0 k)) (hnm : ∀ a, a < N → ∀ b, b < N → a ≠ b → (T a).2.1 ≠ (T b).2.1) (k : Nat) (hf : k < N ∧ nf ci = N ∧ ci < 13 ∧ ref = (T k).1) (hr : isr ci k = false) (hfin : (T k).2.2.2 = false) {k' : Int} (hk' : (k : Int) = k') {v : Int} (hv : rI v) (hfit : narrow (ty0 k) (.int (iI v)) = .int (iI v) ∧ fits (ty0 k) (.int (iI v)) = true) (hlink : (Cond.fieldLink own index ref (T k).2.1 (T k).2.2.1).before args s = true) (hdg : decode cc pc = .ok (.putfield index, 3))
    (kk : ∀ (H1 : Heap) (locs1 : List Loc), sk_W G n B (up I a k' v) s H1 locs1 → W p l e R s m args below meth c H1 locs1 cells slots Q (F0 m (pc + 3) ls rest)) : W p l e R s m args below meth c H locs cells slots Q (F0 m pc ls (.int (iI v) :: .ref (sk_ad G a) :: rest)) := by
  obtain ⟨hexec, hb, -, hown, hts⟩ := S
  obtain ⟨i, rfl⟩ : ∃ i : Nat, a = i := ⟨a.toNat, by omega⟩
  subst hk'
  obtain ⟨f1, f2, f3, f4⟩ := hf
  subst f4
  have hap := va_apart (own := own) hts hin ty0 hty hnm hK.1 hc
  obtain ⟨⟨hz, hcs, hrg⟩, hS0⟩ := hw
  have hi0 : i < n := by omega
  obtain ⟨cell, q1, q2, q3, q4⟩ := (hcs i hi0).1 (by rw [hk]; exact f3)
  rw [hk] at q2 q4
  rw [f2] at q4
  obtain ⟨hS, hfc, kC, hkC, hkind⟩ := hK.1.1 _ _ hc
  obtain ⟨cf, kf, fi, f, hi, hsl⟩ := hS k f1
  have hlay := hts _ (hin _ (u_in_lay f1))
  unfold u_lay at hlay
  rw [if_neg (by rw [hfin]; decide)] at hlay
  have hst := (u_facts hfc hkC (u_lays hts hin f1) hi).1
  have h6 := u_store hfc hkC hkind hlay hi (hty k f1) hfit.1 hfit.2
  refine W.putK hexec hb (f := f) ⟨hown, hlink, ⟨_, _, _, hi⟩, hst⟩ (by rw [q2]; exact h6) q1 q3 (by rw [hsl]; exact k2_hasslot (q4 k f1)) rfl rfl hdg fun H' e1 e2 e3 => ?_
  rw [hsl] at e1 ⊢
  have e3' : ∀ q : Nat, q ≠ G.2.2.2.2 + i → H'[q]? = H[q]? := e3
  refine kk H' _ ⟨sk_H.set ⟨hz, hcs, hrg⟩ hi0 hv e2 e3' ⟨fun _ => ?_, fun q => ?_, fun q => ?_, fun q => ?_⟩, hS0.put e2 e3 (Nat.le_add_right _ _)⟩
  · rw [hk, f2]
    refine t_OB.to (V := updV (fld G B (I i) i) k (.int (iI v))) ⟨_, e1, q2, q3, t_set q4 hap f1 _⟩ (fun j hj => ?_)
    unfold updV fld
    by_cases hjk : j = k
    · subst hjk
      rw [if_pos rfl, hk, hr]
      simp [up]
    · rw [if_neg hjk]
      have hj2 : (j : Int) ≠ (k : Int) := by omega
      simp [up, hj2]
  all_goals (rw [hk] at q; omega)
theorem sk_getN (S : CallFix p m c cc nL s args Ts own) (hK : sk_K G s) (hw : sk_W G n B I s H locs) (hk : kd a = ci) (ha : 0 ≤ a ∧ a < n) {C ref : String} {T : u_T} {N index : Nat} (hc : vwCl[ci]? = some (C, T, N)) (hin : ∀ w ∈ u_ws C T N, w ∈ Ts) (k : Nat) (hf : k < N ∧ nf ci = N ∧ ci < 13 ∧ ref = (T k).1) (hlink : (Cond.fieldLinkNest own index ref (T k).2.1 (T k).2.2.1 "SkyLights").before args s = true) (hdg : decode cc pc = .ok (.getfield index, 3))
    (kk : W p l e R s m args below meth c H locs cells slots Q (F0 m (pc + 3) ls (fld G B (I a) a k :: rest))) : W p l e R s m args below meth c H locs cells slots Q (F0 m pc ls (.ref (sk_ad G a) :: rest)) := by
  obtain ⟨hexec, hb, -, hown, hts⟩ := S
  obtain ⟨i, rfl⟩ : ∃ i : Nat, a = i := ⟨a.toNat, by omega⟩
  subst hk
  obtain ⟨f1, f2, f3, f4⟩ := hf
  subst f4
  obtain ⟨cell, q1, q2, q3, q4⟩ := (hw.1.2.1 i (by omega)).1 f3
  obtain ⟨hS, hfc, kC, hkC, hkind⟩ := hK.1.1 _ _ hc
  obtain ⟨cf, kf, fi, f, hi, hsl⟩ := hS k f1
  refine va_Wgetf (v := fld G B (I i) i k) hexec hb hown hlink hi (u_facts hfc hkC (u_lays hts hin f1) hi).1 q1 (by rw [q3]; exact fun h => by cases h) ?_ rfl rfl hdg kk
  rw [hsl]
  exact q4 k (by rw [f2]; exact f1)
theorem sk_getiN (S : CallFix p m c cc nL s args Ts own) (hK : sk_K G s) (hw : sk_W G n B I s H locs) (hk : kd a = ci) (ha : 0 ≤ a ∧ a < n) {C ref : String} {T : u_T} {N index : Nat} (hc : vwCl[ci]? = some (C, T, N)) (hin : ∀ w ∈ u_ws C T N, w ∈ Ts) (k : Nat) (hf : k < N ∧ nf ci = N ∧ ci < 13 ∧ ref = (T k).1) (hr : isr ci k = false) {k' : Int} (hk' : (k : Int) = k') (hlink : (Cond.fieldLinkNest own index ref (T k).2.1 (T k).2.2.1 "SkyLights").before args s = true) (hdg : decode cc pc = .ok (.getfield index, 3))
    (kk : W p l e R s m args below meth c H locs cells slots Q (F0 m (pc + 3) ls (.int (iI (I a k')) :: rest))) : W p l e R s m args below meth c H locs cells slots Q (F0 m pc ls (.ref (sk_ad G a) :: rest)) := by
  refine sk_getN S hK hw hk ha hc hin k hf hlink hdg ?_
  rw [show fld G B (I a) a k = .int (iI (I a k')) from by unfold fld; rw [hk, hr]; subst hk'; simp]
  exact kk
theorem sk_getrN (S : CallFix p m c cc nL s args Ts own) (hK : sk_K G s) (hw : sk_W G n B I s H locs) (hk : kd a = ci) (ha : 0 ≤ a ∧ a < n) {C ref : String} {T : u_T} {N index : Nat} (hc : vwCl[ci]? = some (C, T, N)) (hin : ∀ w ∈ u_ws C T N, w ∈ Ts) (k : Nat) (hf : k < N ∧ nf ci = N ∧ ci < 13 ∧ ref = (T k).1) (hr : isr ci k = true) {k' b : Int} (hk' : (k : Int) = k') (hB : B a k' = true) (hrf : rf a k' = b) (hlink : (Cond.fieldLinkNest own index ref (T k).2.1 (T k).2.2.1 "SkyLights").before args s = true) (hdg : decode cc pc = .ok (.getfield index, 3))
    (kk : W p l e R s m args below meth c H locs cells slots Q (F0 m (pc + 3) ls (.ref (sk_ad G b) :: rest))) : W p l e R s m args below meth c H locs cells slots Q (F0 m pc ls (.ref (sk_ad G a) :: rest)) := by
  refine sk_getN S hK hw hk ha hc hin k hf hlink hdg ?_
  rw [show fld G B (I a) a k = .ref (sk_ad G b) from by unfold fld; rw [hk, hr]; subst hk'; rw [if_pos rfl, hB, if_pos rfl, hrf]]
  exact kk
theorem sk_putN (S : CallFix p m c cc nL s args Ts own) (hK : sk_K G s) (hw : sk_W G n B I s H locs) (hk : kd a = ci) (ha : 0 ≤ a ∧ a < n) {C ref : String} {T : u_T} {N index : Nat} (hc : vwCl[ci]? = some (C, T, N)) (hin : ∀ w ∈ u_ws C T N, w ∈ Ts) (ty0 : Nat → FieldType) (hty : ∀ k, k < N → parseFieldDescriptor (T k).2.2.1 = some (ty0 k)) (hnm : ∀ a, a < N → ∀ b, b < N → a ≠ b → (T a).2.1 ≠ (T b).2.1) (k : Nat) (hf : k < N ∧ nf ci = N ∧ ci < 13 ∧ ref = (T k).1) (hr : isr ci k = false) (hfin : (T k).2.2.2 = false) {k' : Int} (hk' : (k : Int) = k') {v : Int} (hv : rI v) (hfit : narrow (ty0 k) (.int (iI v)) = .int (iI v) ∧ fits (ty0 k) (.int (iI v)) = true) (hlink : (Cond.fieldLinkNest own index ref (T k).2.1 (T k).2.2.1 "SkyLights").before args s = true) (hdg : decode cc pc = .ok (.putfield index, 3))
    (kk : ∀ (H1 : Heap) (locs1 : List Loc), sk_W G n B (up I a k' v) s H1 locs1 → W p l e R s m args below meth c H1 locs1 cells slots Q (F0 m (pc + 3) ls rest)) : W p l e R s m args below meth c H locs cells slots Q (F0 m pc ls (.int (iI v) :: .ref (sk_ad G a) :: rest)) := by
  obtain ⟨hexec, hb, -, hown, hts⟩ := S
  obtain ⟨i, rfl⟩ : ∃ i : Nat, a = i := ⟨a.toNat, by omega⟩
  subst hk'
  obtain ⟨f1, f2, f3, f4⟩ := hf
  subst f4
  have hap := va_apart (own := own) hts hin ty0 hty hnm hK.1 hc
  obtain ⟨⟨hz, hcs, hrg⟩, hS0⟩ := hw
  have hi0 : i < n := by omega
  obtain ⟨cell, q1, q2, q3, q4⟩ := (hcs i hi0).1 (by rw [hk]; exact f3)
  rw [hk] at q2 q4
  rw [f2] at q4
  obtain ⟨hS, hfc, kC, hkC, hkind⟩ := hK.1.1 _ _ hc
  obtain ⟨cf, kf, fi, f, hi, hsl⟩ := hS k f1
  have hlay := hts _ (hin _ (u_in_lay f1))
  unfold u_lay at hlay
  rw [if_neg (by rw [hfin]; decide)] at hlay
  have hst := (u_facts hfc hkC (u_lays hts hin f1) hi).1
  have h6 := u_store hfc hkC hkind hlay hi (hty k f1) hfit.1 hfit.2
  refine va_WputK hexec hb (f := f) hown hlink hi hst (by rw [q2]; exact h6) q1 q3 (by rw [hsl]; exact k2_hasslot (q4 k f1)) rfl rfl hdg fun H' e1 e2 e3 => ?_
  rw [hsl] at e1 ⊢
  have e3' : ∀ q : Nat, q ≠ G.2.2.2.2 + i → H'[q]? = H[q]? := e3
  refine kk H' _ ⟨sk_H.set ⟨hz, hcs, hrg⟩ hi0 hv e2 e3' ⟨fun _ => ?_, fun q => ?_, fun q => ?_, fun q => ?_⟩, hS0.put e2 e3 (Nat.le_add_right _ _)⟩
  · rw [hk, f2]
    refine t_OB.to (V := updV (fld G B (I i) i) k (.int (iI v))) ⟨_, e1, q2, q3, t_set q4 hap f1 _⟩ (fun j hj => ?_)
    unfold updV fld
    by_cases hjk : j = k
    · subst hjk
      rw [if_pos rfl, hk, hr]
      simp [up]
    · rw [if_neg hjk]
      have hj2 : (j : Int) ≠ (k : Int) := by omega
      simp [up, hj2]
  all_goals (rw [hk] at q; omega)
theorem sk_ild (S : CallFix p m c cc nL s args Ts own) (hK : sk_K G s) (hw : sk_W G n B I s H locs) (hk : kd a = 13) (ha : 0 ≤ a ∧ a < n) {i : Int} (hi : 0 ≤ i ∧ i < ln a) (hdg : decode cc pc = .ok (.iaload, 1))
    (kk : W p l e R s m args below meth c H locs cells slots Q (F0 m (pc + 1) ls (.int (iI (I a i)) :: rest))) : W p l e R s m args below meth c H locs cells slots Q (F0 m pc ls (.int (iI i) :: .ref (sk_ad G a) :: rest)) := by
  obtain ⟨hexec, hb, -, hown, hts⟩ := S
  obtain ⟨j, rfl⟩ : ∃ j : Nat, a = j := ⟨a.toNat, by omega⟩
  have hc := (hw.1.2.1 j (by omega)).2.1 hk
  have hr := ln_r (j : Int)
  have hri : rI i := ⟨by omega, by omega⟩
  have hin := iI_in hi hri
  have hlt : (iI i).toNatClampNeg < (ln j).toNat := Nat.not_le.mp fun q => hin (Or.inr q)
  have hh := hK.1.2 0 _ rfl
  refine W.iald (v := .int (iI (I j i))) hexec hb hc (hh.1 _ _) (fun q => by cases q) (by show ¬ (iI i < 0 ∨ (arrV _ _ _).slots.size ≤ _); rw [arrV_size]; exact hin) (by show (arrV _ _ _).slots[_]? = _; rw [arrV_read _ _ hlt, iI_cl hri hi.1, Int.toNat_of_nonneg hi.1]) rfl rfl hdg kk
theorem sk_ist (S : CallFix p m c cc nL s args Ts own) (hK : sk_K G s) (hw : sk_W G n B I s H locs) (hk : kd a = 13) (ha : 0 ≤ a ∧ a < n) {i v : Int} (hi : 0 ≤ i ∧ i < ln a) (hv : rI v) (hdg : decode cc pc = .ok (.iastore, 1))
    (kk : ∀ (H1 : Heap) (locs1 : List Loc), sk_W G n B (up I a i v) s H1 locs1 → W p l e R s m args below meth c H1 locs1 cells slots Q (F0 m (pc + 1) ls rest)) : W p l e R s m args below meth c H locs cells slots Q (F0 m pc ls (.int (iI v) :: .int (iI i) :: .ref (sk_ad G a) :: rest)) := by
  obtain ⟨hexec, hb, -, hown, hts⟩ := S
  obtain ⟨j, rfl⟩ : ∃ j : Nat, a = j := ⟨a.toNat, by omega⟩
  have hj : j < n := by omega
  have hc := (hw.1.2.1 j hj).2.1 hk
  have hr := ln_r (j : Int)
  have hri : rI i := ⟨by omega, by omega⟩
  have hin := iI_in hi hri
  have hh := hK.1.2 0 _ rfl
  refine W.iast hexec hb hc (hh.1 _ _) (fun q => by cases q) (by show ¬ (iI i < 0 ∨ (arrV _ _ _).slots.size ≤ _); rw [arrV_size]; exact hin) rfl rfl hdg fun H1 e z oq => ?_
  have oq' : ∀ q : Nat, q ≠ G.2.2.2.2 + j → H1[q]? = H[q]? := oq
  refine kk H1 _ ⟨hw.1.set hj hv z oq' ⟨fun q => ?_, fun q => ?_, fun q => ?_, fun q => ?_⟩, hw.2.put z oq (Nat.le_add_right _ _)⟩
  · rw [hk] at q; omega
  · have e' : H1[G.2.2.2.2 + j]? = _ := e
    rw [e', arrV_store]
    congr 2
    funext q
    unfold updV
    rw [iI_cl hri hi.1]
    by_cases hq : q = i.toNat
    · subst hq
      rw [if_pos rfl]
      simp [up, Int.toNat_of_nonneg hi.1]
    · rw [if_neg hq]
      have h2 : (q : Int) ≠ i := by omega
      simp [up, h2]
  · rw [hk] at q; omega
  · rw [hk] at q; omega
theorem sk_len (S : CallFix p m c cc nL s args Ts own) (hK : sk_K G s) (hw : sk_W G n B I s H locs) (hk : kd a = 13 ∨ kd a = 14 ∨ kd a = 15) (ha : 0 ≤ a ∧ a < n) (hdg : decode cc pc = .ok (.arraylength, 1))
    (kk : W p l e R s m args below meth c H locs cells slots Q (F0 m (pc + 1) ls (.int (iI (ln a)) :: rest))) : W p l e R s m args below meth c H locs cells slots Q (F0 m pc ls (.ref (sk_ad G a) :: rest)) := by
  obtain ⟨hexec, hb, -, hown, hts⟩ := S
  obtain ⟨j, rfl⟩ : ∃ j : Nat, a = j := ⟨a.toNat, by omega⟩
  have hj : j < n := by omega
  have hr := ln_r (j : Int)
  have hz : ∀ cA V, (arrV cA (ln j).toNat V).slots.size.toInt32 = iI (ln j) := fun cA V => by
    rw [arrV_size]
    show Int32.ofNat _ = Int32.ofInt _
    rw [← Int32.ofInt_eq_ofNat, Int.toNat_of_nonneg hr.2]
  rcases hk with hk | hk | hk
  · exact W.alen hexec hb ((hw.1.2.1 j hj).2.1 hk) ((hK.1.2 0 _ rfl).1 _ _) (hz _ _) rfl rfl hdg kk
  · exact W.alen hexec hb ((hw.1.2.1 j hj).2.2.1 hk) ((hK.1.2 1 _ rfl).1 _ _) (hz _ _) rfl rfl hdg kk
  · exact W.alen hexec hb ((hw.1.2.1 j hj).2.2.2 hk) ((hK.1.2 2 _ rfl).1 _ _) (hz _ _) rfl rfl hdg kk
theorem sk_ald (S : CallFix p m c cc nL s args Ts own) (hK : sk_K G s) (hw : sk_W G n B I s H locs) (hk : kd a = 14 ∨ kd a = 15) (ha : 0 ≤ a ∧ a < n) {i b : Int} (hi : 0 ≤ i ∧ i < ln a) (hB : B a i = true) (hrf : rf a i = b) (hdg : decode cc pc = .ok (.aaload, 1))
    (kk : W p l e R s m args below meth c H locs cells slots Q (F0 m (pc + 1) ls (.ref (sk_ad G b) :: rest))) : W p l e R s m args below meth c H locs cells slots Q (F0 m pc ls (.int (iI i) :: .ref (sk_ad G a) :: rest)) := by
  obtain ⟨hexec, hb, -, hown, hts⟩ := S
  obtain ⟨j, rfl⟩ : ∃ j : Nat, a = j := ⟨a.toNat, by omega⟩
  have hj : j < n := by omega
  have hr := ln_r (j : Int)
  have hri : rI i := ⟨by omega, by omega⟩
  have hin := iI_in hi hri
  have hlt : (iI i).toNatClampNeg < (ln j).toNat := Nat.not_le.mp fun q => hin (Or.inr q)
  have hv : ∀ cA, (arrV cA (ln j).toNat (fun q => if B j q = true then Value.ref (sk_ad G (rf j q)) else .null)).slots[(iI i).toNatClampNeg]? = some (.ref (sk_ad G b)) := fun cA => by
    rw [arrV_read _ _ hlt, iI_cl hri hi.1, Int.toNat_of_nonneg hi.1, hB, if_pos rfl, hrf]
  rcases hk with hk | hk
  · exact W.aald (v := .ref (sk_ad G b)) (ty := .object "SkyLights$Places") hexec hb ((hw.1.2.1 j hj).2.2.1 hk) ((hK.1.2 1 _ rfl).1 _ _) rfl (fun q => by cases q) (by show ¬ (iI i < 0 ∨ (arrV _ _ _).slots.size ≤ _); rw [arrV_size]; exact hin) (hv _) rfl rfl hdg kk
  · exact W.aald (v := .ref (sk_ad G b)) (ty := .object "SkyLights$Scene") hexec hb ((hw.1.2.1 j hj).2.2.2 hk) ((hK.1.2 2 _ rfl).1 _ _) rfl (fun q => by cases q) (by show ¬ (iI i < 0 ∨ (arrV _ _ _).slots.size ≤ _); rw [arrV_size]; exact hin) (hv _) rfl rfl hdg kk
theorem sk_recv (hK : sk_K G s) (hw : sk_W G n B I s H locs) (hk : kd a = ci) (ha : 0 ≤ a ∧ a < n) (h13 : ci < 13) {q : vw_C} (hc : vwCl[ci]? = some q) : ∃ cell : Cell, H[sk_ad G a]? = some cell ∧ cell.vm.isStatics = false ∧ s.vm.findClass q.1 = some cell.cls := by
  obtain ⟨i, rfl⟩ : ∃ i : Nat, a = i := ⟨a.toNat, by omega⟩
  subst hk
  obtain ⟨cell, q1, q2, q3, q4⟩ := (hw.1.2.1 i (by omega)).1 h13
  exact ⟨cell, q1, by rw [q3]; rfl, by rw [q2]; exact (hK.1.1 _ q hc).2.1⟩
end SKR
