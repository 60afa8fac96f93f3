/-! ===== while the objects are being made: a slot is as it was born, or has its first value ===== -/
def I0 (a k : Int) : Int := match kd a with
  | 0 => if k = 0 then 10 else 0
  | 1 => if k = 5 ∨ k = 6 then -1 else 0
  | 4 => if k = 2 then 1 else 0
  | 9 => if k = 4 then 50 else 0
  | 12 => if k = 10 then 10 else if k = 42 then 50 else if k = 49 ∨ k = 50 then -1 else 0
  | 13 => if (a = 153 ∨ a = 155) ∧ 0 ≤ k ∧ k < 10 then -1 else 0
  | _ => 0
theorem I0_r (a k : Int) : rI (I0 a k) := by
  unfold I0
  split <;> (repeat' split) <;> decide
def cI (B : Int → Int → Bool) : sk_S := fun a k => if B a k = true then I0 a k else 0
theorem cI_r (B : Int → Int → Bool) (a k : Int) : rI (cI B a k) := by
  unfold cI
  split
  · exact I0_r a k
  · decide
theorem cI_0 {B : Int → Int → Bool} {a k : Int} (h : I0 a k = 0) : cI B a k = 0 := by unfold cI; rw [h]; simp
def cw (G : sk_G) (n : Nat) (B : Int → Int → Bool) (H : Heap) : Prop := sk_H G n B (cI B) H
def cU (G : sk_G) (n : Nat) (B : Int → Int → Bool) (U : State) : Prop := cw G n B U.heap ∧ sk_K G U
def cQ (G : sk_G) (n : Nat) (B : Int → Int → Bool) : Array Value → State → Outcome → State → Prop := va_Qv (fun _ : Unit => True) (fun _ t => cU G n B t) (sk_A G)
def uB (B : Int → Int → Bool) (a k : Int) : Int → Int → Bool := fun x j => if x = a ∧ j = k then true else B x j
def bx (B : Int → Int → Bool) (a n : Int) : Int → Int → Bool := fun x j => if a ≤ x ∧ x < n then true else B x j
def isrs (i k : Nat) : Bool := if kd i < 13 then isr (kd i) k else (kd i == 14 || kd i == 15) && decide (k < (ln i).toNat)
theorem arrV_ext {cA : ClassId} {N : Nat} {f g : Nat → Value} (h : ∀ j, j < N → f j = g j) : arrV cA N f = arrV cA N g := by
  unfold arrV
  congr 1
  apply Array.ext
  · simp
  · intro j h1 h2
    simp only [Array.getElem_ofFn]
    exact h j (by simpa using h1)
theorem sk_H.cong {G : sk_G} {n : Nat} {B B' : Int → Int → Bool} {I I' : sk_S} {H : Heap} (h : sk_H G n B I H) (hB : ∀ i : Nat, i < n → ∀ k : Nat, isrs i k = true → B i k = B' i k) (hI : ∀ i : Nat, i < n → ∀ k : Int, I i k = I' i k) (hr : ∀ a k, rI (I' a k)) : sk_H G n B' I' H := by
  refine ⟨h.1, fun i hi => ?_, hr⟩
  obtain ⟨c1, c2, c3, c4⟩ := h.2.1 i hi
  have hJ : I i = I' i := funext fun k => hI i hi k
  refine ⟨fun q => ?_, fun q => ?_, fun q => ?_, fun q => ?_⟩
  · refine (c1 q).to (fun k hk => ?_)
    unfold fld
    by_cases hr : isr (kd i) k = true
    · rw [if_pos hr, if_pos hr, hB i hi k (by unfold isrs; rw [if_pos q]; exact hr)]
    · rw [if_neg hr, if_neg hr, hJ]
  · rw [← hJ]; exact c2 q
  · rw [c3 q]
    congr 1
    exact arrV_ext fun j hj => by rw [hB i hi j (by unfold isrs; rw [q]; simpa using hj)]
  · rw [c4 q]
    congr 1
    exact arrV_ext fun j hj => by rw [hB i hi j (by unfold isrs; rw [q]; simpa using hj)]
/-- slots whose first value is what they are born with need no word -/
theorem cw.cong {G : sk_G} {n : Nat} {B B' : Int → Int → Bool} {H : Heap} (h : cw G n B H) (hB : ∀ i : Nat, i < n → ∀ k : Nat, isrs i k = true → B i k = B' i k) (hI : ∀ i : Nat, i < n → ∀ k : Int, B i k = B' i k ∨ I0 i k = 0) : cw G n B' H := by
  refine sk_H.cong h hB (fun i hi k => ?_) (cI_r B')
  rcases hI i hi k with q | q
  · unfold cI; rw [q]
  · rw [cI_0 q, cI_0 q]
theorem cw.put {G : sk_G} {n : Nat} {B : Int → Int → Bool} {H : Heap} {a k v : Int} (h : sk_H G n B (up (cI B) a k v) H) (hv : v = I0 a k) (hk : ∀ j : Nat, (j : Int) = k → ∀ i : Nat, (i : Int) = a → isrs i j = false) : cw G n (uB B a k) H := by
  refine sk_H.cong h (fun i hi j hj => ?_) (fun i hi j => ?_) (cI_r _)
  · unfold uB
    by_cases q : (i : Int) = a ∧ (j : Int) = k
    · rw [hk j q.2 i q.1] at hj; cases hj
    · rw [if_neg q]
  · unfold up cI uB
    by_cases q : (i : Int) = a ∧ j = k
    · rw [if_pos q, if_pos q, hv, q.1, q.2]; simp
    · rw [if_neg q, if_neg q]
section CR
variable {p : Program} {l : Launch} {e : Env} {R : Room} {s : State} {m : MethodId} {args : Array Value} {below : List Frame} {meth : Method} {c : Code} {H : Heap} {locs : List Loc} {cells slots : Nat} {Q : State → Prop}
variable {cc : ByteArray} {pc nL : Nat} {ls : Array Slot} {rest : List Value} {Ts : List Cond} {own : String} {G : sk_G} {n : Nat} {B : Int → Int → Bool} {a b : Int} {ci : Nat}
/-- a heap that has grown by one cell -/
theorem sk_H.grow {I : sk_S} {H1 : Heap} (h : sk_H G n B I H) (z : H1.size = H.size + 1) (o : ∀ q : Nat, q < H.size → H1[q]? = H[q]?) (hc : sk_c G B (I n) n H1) : sk_H G (n + 1) B I H1 := by
  refine ⟨by rw [z, h.1]; omega, fun i hi => ?_, h.2.2⟩
  by_cases e : i = n
  · subst e; exact hc
  · exact (h.2.1 i (by omega)).kept (o _ (by rw [h.1]; omega))
theorem sk_S.grow {A : Nat → Prop} {H0 H1 : Heap} (h : va_S A H0 H locs) (z : H1.size = H.size + 1) (o : ∀ q : Nat, q < H.size → H1[q]? = H[q]?) : va_S A H0 H1 locs :=
  ⟨Nat.le_trans h.1 (by omega), fun x h1 h2 => (o x (Nat.lt_of_lt_of_le h1 h.1)).trans (h.2.1 x h1 h2), h.2.2⟩
theorem sk_new (S : CallFix p m c cc nL s args Ts own) (hK : sk_K G s) (hw : cw G n B H) (hS : va_S (sk_A G) s.heap H locs) (hB : ∀ x k, (n : Int) ≤ x → B x k = false) {C : String} {T : u_T} {N index : Nat} (hc : vwCl[ci]? = some (C, T, N)) (hin : ∀ w ∈ u_ws C T N, w ∈ Ts) (ty : Nat → FieldType) (hty : ∀ k, k < N → parseFieldDescriptor (T k).2.2.1 = some (ty k)) (hf : kd n = ci ∧ nf ci = N ∧ ci < 13) (hdf : ∀ k, k < N → defaultValue (ty k) = if isr ci k = true then .null else .int 0) (hcl : (Cond.classLink own index C).before args s = true) (hinst : (Cond.instantiable C N).before args s = true) (hini : (Cond.initialized C).before args s = true) (hcells : cells + 1 ≤ R.cells ∧ slots + N ≤ R.slots) (hdg : decode cc pc = .ok (.new index, 3))
    (kk : ∀ H1 : Heap, cw G (n + 1) B H1 → va_S (sk_A G) s.heap H1 locs → W p l e R s m args below meth c H1 locs (cells + 1) (slots + N) Q (F0 m (pc + 3) ls (.ref (sk_ad G n) :: rest))) : W p l e R s m args below meth c H locs cells slots Q (F0 m pc ls rest) := by
  obtain ⟨hexec, hb, -, hown, hts⟩ := S
  have hKn := hK.1.1 ci _ hc
  refine W.newcK hexec hb hown hcl hinst hini rfl hdg hcells.1 hcells.2 hKn.2.1 rfl fun H1 kC hkC e1 z1 o1 => ?_
  have hz : H.size = G.2.2.2.2 + n := hw.1
  have := kk H1 (sk_H.grow hw z1 o1 ⟨fun q => ?_, fun q => ?_, fun q => ?_, fun q => ?_⟩) (sk_S.grow hS z1 o1)
  · rw [hz]; exact this
  · rw [hf.1, hf.2.1]
    rw [hz] at e1
    refine (u_born ty hts hin hKn hkC e1 hty).to (fun k hk => ?_)
    rw [hdf k hk]
    unfold fld
    rw [hf.1]
    by_cases hr : isr ci k = true
    · rw [if_pos hr, if_pos hr, hB n k (Int.le_refl _)]; rfl
    · rw [if_neg hr, if_neg hr]; unfold cI; rw [hB n k (Int.le_refl _)]; rfl
  all_goals (rw [hf.1] at q; omega)
theorem sk_newI (S : CallFix p m c cc nL s args Ts own) (hK : sk_K G s) (hw : cw G n B H) (hS : va_S (sk_A G) s.heap H locs) (hB : ∀ x k, (n : Int) ≤ x → B x k = false) {v : Int} {N : Nat} (hk : kd n = 13) (hl : ln n = v) (hv : v = N) (hr : N ≤ 100000) (harr : (Cond.arrayClass .int).before args s = true) (hcells : cells + 1 ≤ R.cells ∧ slots + N ≤ R.slots) (hdg : decode cc pc = .ok (.newarray .int, 2))
    (kk : ∀ H1 : Heap, cw G (n + 1) B H1 → va_S (sk_A G) s.heap H1 locs → W p l e R s m args below meth c H1 locs (cells + 1) (slots + N) Q (F0 m (pc + 2) ls (.ref (sk_ad G n) :: rest))) : W p l e R s m args below meth c H locs cells slots Q (F0 m pc ls (.int (iI v) :: rest)) := by
  obtain ⟨hexec, hb, -, hown, hts⟩ := S
  have hrv : rI v := ⟨by omega, by omega⟩
  have h0 : 0 ≤ v := by omega
  have hcl := iI_cl hrv h0
  have hz : H.size = G.2.2.2.2 + n := hw.1
  refine va_newaK (atype := .int) hexec hb harr rfl hdg rfl (by rw [show (0 : Int32) = iI 0 from rfl, iI_lt hrv (by decide)]; omega) (show _ = N by rw [hcl]; omega) (by show N * 4 ≤ _; omega) hcells.1 hcells.2 rfl fun H1 cA e1 z1 o1 hAr hNm => ?_
  have hcA : cA = G.2.1 := Option.some.inj (hNm.symm.trans (hK.1.2 0 _ rfl).2)
  have := kk H1 (sk_H.grow hw z1 o1 ⟨fun q => ?_, fun _ => ?_, fun q => ?_, fun q => ?_⟩) (sk_S.grow hS z1 o1)
  · rw [hz]; exact this
  · rw [hk] at q; omega
  · rw [← hz, e1, hcA, hl, hv]
    congr 2
    funext j
    show Value.int 0 = _
    unfold cI; rw [hB n j (Int.le_refl _)]; rfl
  all_goals (rw [hk] at q; omega)
theorem sk_newR (S : CallFix p m c cc nL s args Ts own) (hK : sk_K G s) (hw : cw G n B H) (hS : va_S (sk_A G) s.heap H locs) (hB : ∀ x k, (n : Int) ≤ x → B x k = false) {C : String} {index N : Nat} (hk : (kd n = 14 ∧ C = "SkyLights$Places") ∨ (kd n = 15 ∧ C = "SkyLights$Scene")) (hl : ln n = N) (hr : N ≤ 1000) (hcl : (Cond.classLink own index C).before args s = true) (hcells : cells + 1 ≤ R.cells ∧ slots + N ≤ R.slots) (hdg : decode cc pc = .ok (.anewarray index, 3))
    (kk : ∀ H1 : Heap, cw G (n + 1) B H1 → va_S (sk_A G) s.heap H1 locs → W p l e R s m args below meth c H1 locs (cells + 1) (slots + N) Q (F0 m (pc + 3) ls (.ref (sk_ad G n) :: rest))) : W p l e R s m args below meth c H locs cells slots Q (F0 m pc ls (.int (iI N) :: rest)) := by
  obtain ⟨hexec, hb, -, hown, hts⟩ := S
  have hrv : rI (N : Int) := ⟨by omega, by omega⟩
  have hN : (iI (N : Int)).toNatClampNeg = N := by rw [iI_cl hrv (by omega)]; omega
  have hz : H.size = G.2.2.2.2 + n := hw.1
  have hover : va_AO C s := by
    rcases hk with ⟨-, rfl⟩ | ⟨-, rfl⟩
    · exact hK.2.2.2.1
    · exact hK.2.2.2.2
  refine W.anew hexec hb hown hcl (va_AO.use hover) rfl hdg rfl (by rw [show (0 : Int32) = iI 0 from rfl, iI_lt hrv (by decide)]; omega) (by rw [hN]; omega) hcells.1 (by rw [hN]; exact hcells.2) fun cA kA comp f1 f2 f3 f4 => ?_
  rw [hN]
  generalize hH1 : H.push ({ cls := cA, slots := Array.replicate N .null, vm := .none } : Cell) = H1
  have z1 : H1.size = H.size + 1 := by rw [← hH1, Array.size_push]
  have e1 : H1[H.size]? = some (arrV cA N (fun _ => .null)) := by rw [← hH1, Array.getElem?_push_size, ← arrV_new]
  have o1 : ∀ q : Nat, q < H.size → H1[q]? = H[q]? := fun q hq => by rw [← hH1, Array.getElem?_push, if_neg (Nat.ne_of_lt hq)]
  have hnull : ∀ j : Nat, (if B n j = true then Value.ref (sk_ad G (rf n j)) else .null) = .null := fun j => by rw [hB n j (Int.le_refl _)]; rfl
  have hln : (ln n).toNat = N := by rw [hl]; omega
  have := kk H1 (sk_H.grow hw z1 o1 ⟨fun q => ?_, fun q => ?_, fun q => ?_, fun q => ?_⟩) (sk_S.grow hS z1 o1)
  · rw [hz]; exact this
  · rcases hk with ⟨hk, -⟩ | ⟨hk, -⟩ <;> (rw [hk] at q; omega)
  · rcases hk with ⟨hk, -⟩ | ⟨hk, -⟩ <;> (rw [hk] at q; omega)
  · rcases hk with ⟨hk, hC⟩ | ⟨hk, -⟩
    · subst hC
      obtain ⟨_, _, -, -, -, hh⟩ := (hK.1.2 1 _ rfl).2
      have hcA : cA = G.2.2.1 := Option.some.inj (f1.symm.trans hh)
      rw [← hz, e1, hcA, hln]
      congr 2
      funext j
      exact (hnull j).symm
    · rw [hk] at q; omega
  · rcases hk with ⟨hk, -⟩ | ⟨hk, hC⟩
    · rw [hk] at q; omega
    · subst hC
      obtain ⟨_, _, -, -, -, hh⟩ := (hK.1.2 2 _ rfl).2
      have hcA : cA = G.2.2.2.1 := Option.some.inj (f1.symm.trans hh)
      rw [← hz, e1, hcA, hln]
      congr 2
      funext j
      exact (hnull j).symm
/-- a reference is put into a final field, once -/
theorem sk_putr (S : CallFix p m c cc nL s args Ts own) (hK : sk_K G s) (hw : cw G n B H) (hS0 : va_S (sk_A G) s.heap H locs) (hk : kd a = ci) (ha : 0 ≤ a ∧ a < n) {ref : String} {T : u_T} {N index : Nat} (hc : vwCl[ci]? = some (own, T, N)) (hin : ∀ w ∈ u_ws own T N, w ∈ Ts) (ty0 : Nat → FieldType) (hty : ∀ k, k < N → parseFieldDescriptor (T k).2.2.1 = some (ty0 k)) (hnm : ∀ a, a < N → ∀ b, b < N → a ≠ b → (T a).2.1 ≠ (T b).2.1) (k : Nat) (hf : k < N ∧ nf ci = N ∧ ci < 13 ∧ ref = (T k).1 ∧ (T k).1 = own) (hr : isr ci k = true) (hfin : (T k).2.2.2 = true) (hin2 : meth.name = "<init>") {k' : Int} (hk' : (k : Int) = k') (hrf : rf a k' = b) (hfit : ∀ q : Addr, narrow (ty0 k) (.ref q) = .ref q ∧ fits (ty0 k) (.ref q) = true) (hlink : (Cond.fieldLink own index ref (T k).2.1 (T k).2.2.1).before args s = true) (hdg : decode cc pc = .ok (.putfield index, 3))
    (kk : ∀ (H1 : Heap) (locs1 : List Loc), cw G n (uB B a k') H1 → va_S (sk_A G) s.heap H1 locs1 → W p l e R s m args below meth c H1 locs1 cells slots Q (F0 m (pc + 3) ls rest)) : W p l e R s m args below meth c H locs cells slots Q (F0 m pc ls (.ref (sk_ad G b) :: .ref (sk_ad G a) :: rest)) := by
  obtain ⟨hexec, hb, -, hown, hts⟩ := S
  obtain ⟨i, rfl⟩ : ∃ i : Nat, a = i := ⟨a.toNat, by omega⟩
  subst hk'
  obtain ⟨f1, f2, f3, f4, f5⟩ := hf
  subst f4
  have hap := va_apart (own := own) hts hin ty0 hty hnm hK.1 hc
  have hi0 : i < n := by omega
  obtain ⟨hz, hcs, hrg⟩ := id hw
  obtain ⟨cell, q1, q2, q3, q4⟩ := (hcs i hi0).1 (by rw [hk]; exact f3)
  rw [hk] at q2 q4
  rw [f2] at q4
  obtain ⟨hS, hfc, kC, hkC, hkind⟩ := hK.1.1 _ _ hc
  obtain ⟨cf, kf, fi, f, hi, hsl⟩ := hS k f1
  have hlay := hts _ (hin _ (u_in_lay f1))
  unfold u_lay at hlay
  rw [if_pos hfin] at hlay
  have hst := (u_facts hfc hkC (u_lays hts hin f1) hi).1
  have hcf : m.cls = cf := by
    obtain ⟨_, _, c', _, _, _, -, -, hf', -, -, -, hown2, -⟩ := Cond.laysFinal_spec hlay
    have e1 : c' = cf := by have := hi.symm.trans hf'; simp at this; exact this.1.symm
    rw [f5] at hown2
    rw [← e1]; exact Option.some.inj (hown.symm.trans hown2)
  have h6 := u_fits hfc hkC hkind (Or.inr hlay) hi (hty k f1) (hfit (sk_ad G b)).1 (hfit (sk_ad G b)).2
  refine W.putFinK hexec hb hown hlink hi hst hcf hin2 (by rw [q2]; exact h6) q1 q3 (by rw [hsl]; exact k2_hasslot (q4 k f1)) rfl rfl hdg fun H' e1 e2 e3 => ?_
  rw [hsl] at e1 ⊢
  have e3' : ∀ q : Nat, q ≠ G.2.2.2.2 + i → H'[q]? = H[q]? := e3
  have hne : ∀ j : Nat, j ≠ i → ∀ t, uB B i k j t = B j t := fun j hj t => by
    unfold uB; rw [if_neg (fun q => hj (by omega))]
  have hcI : ∀ x t, cI (uB B i k) x t = cI B x t ∨ (x = (i : Int) ∧ t = k) := fun x t => by
    by_cases q : x = (i : Int) ∧ t = k
    · exact Or.inr q
    · left; unfold cI uB; rw [if_neg q]
  refine kk H' _ ⟨e2.trans hz, fun j hj => ?_, cI_r _⟩ (hS0.put e2 e3 (Nat.le_add_right _ _))
  by_cases e : j = i
  · subst e
    refine ⟨fun _ => ?_, fun q => ?_, fun q => ?_, fun q => ?_⟩
    · rw [hk, f2]
      refine t_OB.to (V := updV (fld G B (cI B j) j) k (.ref (sk_ad G b))) ⟨_, e1, q2, q3, t_set q4 hap f1 _⟩ (fun t ht => ?_)
      unfold updV
      by_cases hjk : t = k
      · subst hjk
        rw [if_pos rfl]
        unfold fld uB
        rw [hk, hr]
        simp [hrf]
      · rw [if_neg hjk]
        have hj2 : (t : Int) ≠ (k : Int) := by omega
        unfold fld cI uB
        simp [hj2]
    all_goals (rw [hk] at q; omega)
  · have h1 := (hcs j hj).kept (H1 := H') (e3' _ (by omega))
    have h2 : cI (uB B i k) j = cI B j := funext fun t => by
      rcases hcI j t with q | q
      · exact q
      · omega
    refine ⟨fun q => ?_, fun q => ?_, fun q => ?_, fun q => ?_⟩
    · refine (h1.1 q).to (fun t _ => ?_)
      unfold fld
      rw [hne j e t, h2]
    · rw [h2]; exact h1.2.1 q
    · rw [h1.2.2.1 q]; congr 2; funext t; rw [hne j e t]
    · rw [h1.2.2.2 q]; congr 2; funext t; rw [hne j e t]
theorem sk_ast (S : CallFix p m c cc nL s args Ts own) (hK : sk_K G s) (hw : cw G n B H) (hS0 : va_S (sk_A G) s.heap H locs) (hk : (kd a = 14 ∧ kd b = 5) ∨ (kd a = 15 ∧ kd b = 8)) (ha : 0 ≤ a ∧ a < n) (hbn : 0 ≤ b ∧ b < n) {i : Int} (hi : 0 ≤ i ∧ i < ln a) (hrf : rf a i = b) (hdg : decode cc pc = .ok (.aastore, 1))
    (kk : ∀ (H1 : Heap) (locs1 : List Loc), cw G n (uB B a i) H1 → va_S (sk_A G) s.heap H1 locs1 → W p l e R s m args below meth c H1 locs1 cells slots Q (F0 m (pc + 1) ls rest)) : W p l e R s m args below meth c H locs cells slots Q (F0 m pc ls (.ref (sk_ad G b) :: .int (iI i) :: .ref (sk_ad G a) :: rest)) := by
  obtain ⟨hexec, hbb, -, hown, hts⟩ := S
  obtain ⟨j, rfl⟩ : ∃ j : Nat, a = j := ⟨a.toNat, by omega⟩
  obtain ⟨t, rfl⟩ : ∃ t : Nat, b = t := ⟨b.toNat, by omega⟩
  have hj : j < n := by omega
  have ht : t < n := by omega
  obtain ⟨hz, hcs, hrg⟩ := id hw
  have hr := ln_r (j : Int)
  have hri : rI i := ⟨by omega, by omega⟩
  have hin := iI_in hi hri
  have hlt : (iI i).toNatClampNeg < (ln j).toNat := Nat.not_le.mp fun q => hin (Or.inr q)
  have h0 : ¬ iI i < 0 := fun q => hin (Or.inl q)
  have hcl := iI_cl hri hi.1
  have fin : ∀ (cA : ClassId) (H1 : Heap), H[G.2.2.2.2 + j]? = some (arrV cA (ln j).toNat (fun q => if B j q = true then Value.ref (sk_ad G (rf j q)) else .null)) → H1[G.2.2.2.2 + j]? = some ((arrV cA (ln j).toNat (fun q => if B j q = true then Value.ref (sk_ad G (rf j q)) else .null)).setSlot (iI i).toNatClampNeg (.ref (sk_ad G t))) → H1[G.2.2.2.2 + j]? = some (arrV cA (ln j).toNat (fun q => if uB B j i j q = true then Value.ref (sk_ad G (rf j q)) else .null)) := fun cA H1 _ e1 => by
    rw [e1, arrV_store]
    congr 2
    funext q
    unfold updV uB
    rw [hcl]
    by_cases hq : q = i.toNat
    · subst hq
      rw [if_pos rfl]
      simp [Int.toNat_of_nonneg hi.1, hrf]
    · rw [if_neg hq]
      have h2 : (q : Int) ≠ i := by omega
      simp [h2]
  have oth : ∀ H1 : Heap, H1.size = H.size → (∀ q : Nat, q ≠ G.2.2.2.2 + j → H1[q]? = H[q]?) → sk_c G (uB B j i) (cI (uB B j i) j) j H1 → cw G n (uB B j i) H1 := fun H1 z oq hc => by
    refine ⟨z.trans hz, fun x hx => ?_, cI_r _⟩
    by_cases e : x = j
    · subst e; exact hc
    · have h1 := (hcs x hx).kept (H1 := H1) (oq _ (by omega))
      have hne : ∀ q, uB B j i x q = B x q := fun q => by unfold uB; rw [if_neg (fun q => e (by omega))]
      have h2 : cI (uB B j i) x = cI B x := funext fun q => by unfold cI; rw [hne]
      refine ⟨fun q => ?_, fun q => ?_, fun q => ?_, fun q => ?_⟩
      · refine (h1.1 q).to (fun y _ => ?_)
        unfold fld
        rw [hne y, h2]
      · rw [h2]; exact h1.2.1 q
      · rw [h1.2.2.1 q]; congr 2; funext y; rw [hne y]
      · rw [h1.2.2.2 q]; congr 2; funext y; rw [hne y]
  rcases hk with ⟨hk, hkb⟩ | ⟨hk, hkb⟩
  · obtain ⟨cell, g1, g2, g3, -⟩ := (hcs t ht).1 (by rw [hkb]; decide)
    rw [hkb] at g2
    have hcls := (hK.1.1 5 _ rfl).2
    obtain ⟨kA, comp, k1, k2, k3, -⟩ := (hK.1.2 1 _ rfl).2
    have hcomp : comp = G.1.1 5 := Option.some.inj (k3.symm.trans hcls.1)
    subst hcomp
    obtain ⟨kC, hkC, -⟩ := id hcls.2
    have hc := (hcs j hj).2.2.1 hk
    refine W.aast hexec hbb hc (fun q h => by cases h) (fun h => by cases h) k1 k2 rfl hkC ⟨h0, by show _ < (arrV _ _ _).slots.size; rw [arrV_size]; exact hlt⟩ g1 (fun q h => by rw [g3] at h; cases h) (by rw [g2]; exact hkC) (by rw [g2]; exact va_assign hcls) rfl rfl hdg fun H1 e z oq => ?_
    refine kk H1 _ (oth H1 z oq ⟨fun q => ?_, fun q => ?_, fun _ => fin _ H1 hc e, fun q => ?_⟩) (hS0.put z oq (Nat.le_add_right _ _))
    all_goals (rw [hk] at q; omega)
  · obtain ⟨cell, g1, g2, g3, -⟩ := (hcs t ht).1 (by rw [hkb]; decide)
    rw [hkb] at g2
    have hcls := (hK.1.1 8 _ rfl).2
    obtain ⟨kA, comp, k1, k2, k3, -⟩ := (hK.1.2 2 _ rfl).2
    have hcomp : comp = G.1.1 8 := Option.some.inj (k3.symm.trans hcls.1)
    subst hcomp
    obtain ⟨kC, hkC, -⟩ := id hcls.2
    have hc := (hcs j hj).2.2.2 hk
    refine W.aast hexec hbb hc (fun q h => by cases h) (fun h => by cases h) k1 k2 rfl hkC ⟨h0, by show _ < (arrV _ _ _).slots.size; rw [arrV_size]; exact hlt⟩ g1 (fun q h => by rw [g3] at h; cases h) (by rw [g2]; exact hkC) (by rw [g2]; exact va_assign hcls) rfl rfl hdg fun H1 e z oq => ?_
    refine kk H1 _ (oth H1 z oq ⟨fun q => ?_, fun q => ?_, fun q => ?_, fun _ => fin _ H1 hc e⟩) (hS0.put z oq (Nat.le_add_right _ _))
    all_goals (rw [hk] at q; omega)
theorem cU_blind {av : List Value} : FrameBlind (va_Pc av (cU G n B)) := fun a U g mk q => by
  obtain ⟨q0, q1⟩ := q
  exact ⟨q0, q1.1, va_K.moved (u := U) (U := U.calling g mk a) (Vm.Alike.refl U.vm) q1.2.1, sk_N.same (u := U) (U := U.calling g mk a) rfl q1.2.2⟩
theorem cU_pre (hK : sk_K G s) (hw : cw G n B H) {av : List Value} : ∀ U : State, U.heap = H → s.WarmedH U.vm → va_Pc av (cU G n B) av.toArray U := fun U hU hW => ⟨rfl, by rw [hU]; exact hw, hK.moved hW⟩
theorem cU_ret {cc : ByteArray} {pc : Nat} {ls : Array Slot} (hx : p.tables.exec = Jvm.exec) (hb : c.code = cc) (hr : meth.sig.returnType = none) (hlocks : meth.locks = false) (hK : sk_K G s) (hw : cw G n B H) (hS : va_S (sk_A G) s.heap H locs) (hdg : decode cc pc = .ok (.return_, 1)) : W p l e R s m args below meth c H locs cells slots (MQ below (cQ G n B) args s cells slots (sk_A G)) (F0 m pc ls []) :=
  W.vret hx hb hr (fun t ht hW => ⟨⟨(), rfl, trivial, by rw [ht]; exact hw, hK.moved hW⟩, hS.F ht⟩) hS.2.2 hdg hlocks
theorem cU_cv {st0 : List Value} {mc ms : Nat} {n' : Nat} {B' : Int → Int → Bool} {aa : Array Value} (hr : va_Run p l e R s m args below meth c H locs cells slots mc ms (F0 m pc ls st0) rest (cQ G n' B' aa) (sk_A G)) (hS : va_S (sk_A G) s.heap H locs)
    (kk : ∀ (H : Heap) (locs : List Loc), cw G n' B' H → va_S (sk_A G) s.heap H locs → W p l e R s m args below meth c H locs (cells + mc) (slots + ms) Q (F0 m (pc + 3) ls rest)) : W p l e R s m args below meth c H locs cells slots Q (F0 m pc ls st0) := by
  refine va_callv hr hS (fun _ _ h => h) (fun _ h => h) (fun u t H1 locs1 ht hvm hq hB hz hk hS => ?_)
  exact kk H1 locs1 (by rw [← ht]; exact hB.1) hS
end CR
