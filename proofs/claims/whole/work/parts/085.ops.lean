/-! ===== rows for whole numbers, calls and ends ===== -/
abbrev sk_S : Type := Int → Int → Int
def sk_Qi (G : sk_G) (n : Nat) (B : Int → Int → Bool) (Q : Int → sk_S → Prop) : Array Value → State → Outcome → State → Prop := va_Qi (fun (r : Int32) (u : Int × sk_S) => r = iI u.1 ∧ rI u.1 ∧ Q u.1 u.2) (fun u t => sk_U G n B u.2 t) (sk_A G)
def sk_Qz (G : sk_G) (n : Nat) (B : Int → Int → Bool) (Q : Int → sk_S → Prop) : Array Value → State → Outcome → State → Prop := sk_Qi G n B (fun r I => (r = 0 ∨ r = 1) ∧ Q r I)
def sk_Qv (G : sk_G) (n : Nat) (B : Int → Int → Bool) (Q : sk_S → Prop) : Array Value → State → Outcome → State → Prop := va_Qv (fun (u : sk_S) => Q u) (fun u t => sk_U G n B u t) (sk_A G)
def sk_Qr (G : sk_G) (n : Nat) (B : Int → Int → Bool) (ci : Nat) (Q : Int → sk_S → Prop) : Array Value → State → Outcome → State → Prop := va_Qr (fun (u : Int × sk_S) => kd u.1 = ci ∧ Q u.1 u.2) (fun u a t => a = sk_ad G u.1 ∧ sk_U G n B u.2 t) (sk_A G)
theorem sk_blind {G : sk_G} {n : Nat} {B : Int → Int → Bool} {I : sk_S} {av : List Value} : FrameBlind (va_Pc av (sk_U G n B I)) := fun a U g mk q => by
  obtain ⟨q0, q1⟩ := q
  exact ⟨q0, q1.1, va_K.moved (u := U) (U := U.calling g mk a) (Vm.Alike.refl U.vm) q1.2.1, sk_N.same (u := U) (U := U.calling g mk a) rfl q1.2.2⟩
theorem kd_in {a : Int} {c : Nat} (h : kd a = c) (hc : c < 99 := by decide) : 0 ≤ a ∧ a < ((198 : Nat) : Int) := kd_at h hc
section SKO
variable {p : Program} {l : Launch} {e : Env} {R : Room} {s : State} {m : MethodId} {args : Array Value} {below : List Frame} {meth : Method} {c : Code} {H : Heap} {locs : List Loc} {cells slots : Nat} {Q : State → Prop}
variable {cc : ByteArray} {pc nL : Nat} {ls : Array Slot} {rest : List Value} {Ts : List Cond} {own : String} {G : sk_G} {n : Nat} {B : Int → Int → Bool} {I : sk_S} {a b : Int} {ci : Nat}
theorem sk_nm {x : Int} (k : ∀ y : Int, y = x → W p l e R s m args below meth c H locs cells slots Q (F0 m pc ls (.int (iI y) :: rest))) : W p l e R s m args below meth c H locs cells slots Q (F0 m pc ls (.int (iI x) :: rest)) := k x rfl
theorem sk_nml {x : Int} (k : ∀ y : Int, y = x → W p l e R s m args below meth c H locs cells slots Q (F0 m pc ls (.long (lI y) :: rest))) : W p l e R s m args below meth c H locs cells slots Q (F0 m pc ls (.long (lI x) :: rest)) := k x rfl
theorem sk_iadd (hx : p.tables.exec = Jvm.exec) (hb : c.code = cc) (hd : decode cc pc = .ok (.iadd, 1)) (k : W p l e R s m args below meth c H locs cells slots Q (F0 m (pc + 1) ls (.int (iI (a + b)) :: rest))) : W p l e R s m args below meth c H locs cells slots Q (F0 m pc ls (.int (iI b) :: .int (iI a) :: rest)) := lv_iadd hx hb hd (by rw [iI_add]; exact k)
theorem sk_isub (hx : p.tables.exec = Jvm.exec) (hb : c.code = cc) (hd : decode cc pc = .ok (.isub, 1)) (k : W p l e R s m args below meth c H locs cells slots Q (F0 m (pc + 1) ls (.int (iI (a - b)) :: rest))) : W p l e R s m args below meth c H locs cells slots Q (F0 m pc ls (.int (iI b) :: .int (iI a) :: rest)) := lv_isub hx hb hd (by rw [iI_sub]; exact k)
theorem sk_imul (hx : p.tables.exec = Jvm.exec) (hb : c.code = cc) (hd : decode cc pc = .ok (.imul, 1)) (k : W p l e R s m args below meth c H locs cells slots Q (F0 m (pc + 1) ls (.int (iI (a * b)) :: rest))) : W p l e R s m args below meth c H locs cells slots Q (F0 m pc ls (.int (iI b) :: .int (iI a) :: rest)) := lv_imul hx hb hd (by rw [iI_mul]; exact k)
theorem sk_ineg (hx : p.tables.exec = Jvm.exec) (hb : c.code = cc) (hd : decode cc pc = .ok (.ineg, 1)) (k : W p l e R s m args below meth c H locs cells slots Q (F0 m (pc + 1) ls (.int (iI (-a)) :: rest))) : W p l e R s m args below meth c H locs cells slots Q (F0 m pc ls (.int (iI a) :: rest)) := lv_ineg hx hb hd (by rw [iI_neg]; exact k)
theorem sk_idiv (hx : p.tables.exec = Jvm.exec) (hb : c.code = cc) (hr : rI b) (h0 : ¬ b = 0) (hd : decode cc pc = .ok (.idiv, 1)) (k : W p l e R s m args below meth c H locs cells slots Q (F0 m (pc + 1) ls (.int (iI (idiv a b)) :: rest))) : W p l e R s m args below meth c H locs cells slots Q (F0 m pc ls (.int (iI b) :: .int (iI a) :: rest)) := lv_idiv hx hb hd (fun q => h0 ((iI_eq hr (by decide : rI 0)).1 q)) (by unfold idiv at k; rw [iI_of] at k; exact k)
theorem sk_iand (hx : p.tables.exec = Jvm.exec) (hb : c.code = cc) (hd : decode cc pc = .ok (.iand, 1)) (k : W p l e R s m args below meth c H locs cells slots Q (F0 m (pc + 1) ls (.int (iI (iand a b)) :: rest))) : W p l e R s m args below meth c H locs cells slots Q (F0 m pc ls (.int (iI b) :: .int (iI a) :: rest)) := lv_iand hx hb hd (by unfold iand at k; rw [iI_of] at k; exact k)
theorem sk_ior (hx : p.tables.exec = Jvm.exec) (hb : c.code = cc) (hd : decode cc pc = .ok (.ior, 1)) (k : W p l e R s m args below meth c H locs cells slots Q (F0 m (pc + 1) ls (.int (iI (ior a b)) :: rest))) : W p l e R s m args below meth c H locs cells slots Q (F0 m pc ls (.int (iI b) :: .int (iI a) :: rest)) := lv_ior hx hb hd (by unfold ior at k; rw [iI_of] at k; exact k)
theorem sk_ishl (hx : p.tables.exec = Jvm.exec) (hb : c.code = cc) (hd : decode cc pc = .ok (.ishl, 1)) (k : W p l e R s m args below meth c H locs cells slots Q (F0 m (pc + 1) ls (.int (iI (ishl a b)) :: rest))) : W p l e R s m args below meth c H locs cells slots Q (F0 m pc ls (.int (iI b) :: .int (iI a) :: rest)) := lv_ishl hx hb hd (by unfold ishl at k; rw [iI_of] at k; exact k)
theorem sk_ishr (hx : p.tables.exec = Jvm.exec) (hb : c.code = cc) (hd : decode cc pc = .ok (.ishr, 1)) (k : W p l e R s m args below meth c H locs cells slots Q (F0 m (pc + 1) ls (.int (iI (ishr a b)) :: rest))) : W p l e R s m args below meth c H locs cells slots Q (F0 m pc ls (.int (iI b) :: .int (iI a) :: rest)) := lv_ishr hx hb hd (by unfold ishr at k; rw [iI_of] at k; exact k)
theorem sk_iushr (hx : p.tables.exec = Jvm.exec) (hb : c.code = cc) (hd : decode cc pc = .ok (.iushr, 1)) (k : W p l e R s m args below meth c H locs cells slots Q (F0 m (pc + 1) ls (.int (iI (iushr a b)) :: rest))) : W p l e R s m args below meth c H locs cells slots Q (F0 m pc ls (.int (iI b) :: .int (iI a) :: rest)) := lv_iushr hx hb hd (iI_of _).symm k
theorem sk_i2l (hx : p.tables.exec = Jvm.exec) (hb : c.code = cc) (hr : rI a) (hd : decode cc pc = .ok (.i2l, 1)) (k : W p l e R s m args below meth c H locs cells slots Q (F0 m (pc + 1) ls (.long (lI a) :: rest))) : W p l e R s m args below meth c H locs cells slots Q (F0 m pc ls (.int (iI a) :: rest)) := lv_i2l hx hb hd (iI_l hr) k
theorem sk_l2i (hx : p.tables.exec = Jvm.exec) (hb : c.code = cc) (hd : decode cc pc = .ok (.l2i, 1)) (k : W p l e R s m args below meth c H locs cells slots Q (F0 m (pc + 1) ls (.int (iI (l2i a)) :: rest))) : W p l e R s m args below meth c H locs cells slots Q (F0 m pc ls (.long (lI a) :: rest)) := lv_l2i hx hb hd (iI_of _).symm k
theorem sk_ladd (hx : p.tables.exec = Jvm.exec) (hb : c.code = cc) (hd : decode cc pc = .ok (.ladd, 1)) (k : W p l e R s m args below meth c H locs cells slots Q (F0 m (pc + 1) ls (.long (lI (a + b)) :: rest))) : W p l e R s m args below meth c H locs cells slots Q (F0 m pc ls (.long (lI b) :: .long (lI a) :: rest)) := lv_ladd hx hb hd (by rw [lI_add]; exact k)
theorem sk_lsub (hx : p.tables.exec = Jvm.exec) (hb : c.code = cc) (hd : decode cc pc = .ok (.lsub, 1)) (k : W p l e R s m args below meth c H locs cells slots Q (F0 m (pc + 1) ls (.long (lI (a - b)) :: rest))) : W p l e R s m args below meth c H locs cells slots Q (F0 m pc ls (.long (lI b) :: .long (lI a) :: rest)) := lv_lsub hx hb hd (by rw [lI_sub]; exact k)
theorem sk_lmul (hx : p.tables.exec = Jvm.exec) (hb : c.code = cc) (hd : decode cc pc = .ok (.lmul, 1)) (k : W p l e R s m args below meth c H locs cells slots Q (F0 m (pc + 1) ls (.long (lI (a * b)) :: rest))) : W p l e R s m args below meth c H locs cells slots Q (F0 m pc ls (.long (lI b) :: .long (lI a) :: rest)) := lv_lmul hx hb hd (by rw [lI_mul]; exact k)
theorem sk_lneg (hx : p.tables.exec = Jvm.exec) (hb : c.code = cc) (hd : decode cc pc = .ok (.lneg, 1)) (k : W p l e R s m args below meth c H locs cells slots Q (F0 m (pc + 1) ls (.long (lI (-a)) :: rest))) : W p l e R s m args below meth c H locs cells slots Q (F0 m pc ls (.long (lI a) :: rest)) := lv_lneg hx hb hd (by rw [lI_neg]; exact k)
theorem sk_land (hx : p.tables.exec = Jvm.exec) (hb : c.code = cc) (hd : decode cc pc = .ok (.land, 1)) (k : W p l e R s m args below meth c H locs cells slots Q (F0 m (pc + 1) ls (.long (lI (land a b)) :: rest))) : W p l e R s m args below meth c H locs cells slots Q (F0 m pc ls (.long (lI b) :: .long (lI a) :: rest)) := lv_land hx hb hd (by unfold land at k; rw [lI_of] at k; exact k)
theorem sk_lor (hx : p.tables.exec = Jvm.exec) (hb : c.code = cc) (hd : decode cc pc = .ok (.lor, 1)) (k : W p l e R s m args below meth c H locs cells slots Q (F0 m (pc + 1) ls (.long (lI (lor a b)) :: rest))) : W p l e R s m args below meth c H locs cells slots Q (F0 m pc ls (.long (lI b) :: .long (lI a) :: rest)) := lv_lor hx hb hd (by unfold lor at k; rw [lI_of] at k; exact k)
theorem sk_lshl (hx : p.tables.exec = Jvm.exec) (hb : c.code = cc) (hd : decode cc pc = .ok (.lshl, 1)) (k : W p l e R s m args below meth c H locs cells slots Q (F0 m (pc + 1) ls (.long (lI (lshl a b)) :: rest))) : W p l e R s m args below meth c H locs cells slots Q (F0 m pc ls (.int (iI b) :: .long (lI a) :: rest)) := lv_lshl hx hb hd (lI_of _).symm k
theorem sk_lshr (hx : p.tables.exec = Jvm.exec) (hb : c.code = cc) (hd : decode cc pc = .ok (.lshr, 1)) (k : W p l e R s m args below meth c H locs cells slots Q (F0 m (pc + 1) ls (.long (lI (lshr a b)) :: rest))) : W p l e R s m args below meth c H locs cells slots Q (F0 m pc ls (.int (iI b) :: .long (lI a) :: rest)) := lv_lshr hx hb hd (lI_of _).symm k
theorem sk_lushr (hx : p.tables.exec = Jvm.exec) (hb : c.code = cc) (hd : decode cc pc = .ok (.lushr, 1)) (k : W p l e R s m args below meth c H locs cells slots Q (F0 m (pc + 1) ls (.long (lI (lushr a b)) :: rest))) : W p l e R s m args below meth c H locs cells slots Q (F0 m pc ls (.int (iI b) :: .long (lI a) :: rest)) := lv_lushr hx hb hd (lI_of _).symm k
/-! branches -/
theorem sk_icmp_eq {off : Int} {tgt : Nat} (hx : p.tables.exec = Jvm.exec) (hb : c.code = cc) (ha : rI a) (hb2 : rI b) (hd : decode cc pc = .ok (.if_icmp .eq off, 3)) (ht : (pc : Int) + off = (tgt : Int)) (kt : a = b → W p l e R s m args below meth c H locs cells slots Q (F0 m tgt ls rest)) (kf : ¬ a = b → W p l e R s m args below meth c H locs cells slots Q (F0 m (pc + 3) ls rest)) : W p l e R s m args below meth c H locs cells slots Q (F0 m pc ls (.int (iI b) :: .int (iI a) :: rest)) := lv_icmp_eq hx hb hd ht (fun h => kt ((iI_eq ha hb2).1 h)) (fun h => kf (fun q => h (by rw [q])))
theorem sk_icmp_ne {off : Int} {tgt : Nat} (hx : p.tables.exec = Jvm.exec) (hb : c.code = cc) (ha : rI a) (hb2 : rI b) (hd : decode cc pc = .ok (.if_icmp .ne off, 3)) (ht : (pc : Int) + off = (tgt : Int)) (kt : ¬ a = b → W p l e R s m args below meth c H locs cells slots Q (F0 m tgt ls rest)) (kf : a = b → W p l e R s m args below meth c H locs cells slots Q (F0 m (pc + 3) ls rest)) : W p l e R s m args below meth c H locs cells slots Q (F0 m pc ls (.int (iI b) :: .int (iI a) :: rest)) := lv_icmp_ne hx hb hd ht (fun h => kt (fun q => h (by rw [q]))) (fun h => kf ((iI_eq ha hb2).1 h))
theorem sk_icmp_lt {off : Int} {tgt : Nat} (hx : p.tables.exec = Jvm.exec) (hb : c.code = cc) (ha : rI a) (hb2 : rI b) (hd : decode cc pc = .ok (.if_icmp .lt off, 3)) (ht : (pc : Int) + off = (tgt : Int)) (kt : a < b → W p l e R s m args below meth c H locs cells slots Q (F0 m tgt ls rest)) (kf : ¬ a < b → W p l e R s m args below meth c H locs cells slots Q (F0 m (pc + 3) ls rest)) : W p l e R s m args below meth c H locs cells slots Q (F0 m pc ls (.int (iI b) :: .int (iI a) :: rest)) := lv_icmp_lt hx hb hd ht (fun h => kt ((iI_lt ha hb2).1 h)) (fun h => kf (fun q => h ((iI_lt ha hb2).2 q)))
theorem sk_icmp_ge {off : Int} {tgt : Nat} (hx : p.tables.exec = Jvm.exec) (hb : c.code = cc) (ha : rI a) (hb2 : rI b) (hd : decode cc pc = .ok (.if_icmp .ge off, 3)) (ht : (pc : Int) + off = (tgt : Int)) (kt : b ≤ a → W p l e R s m args below meth c H locs cells slots Q (F0 m tgt ls rest)) (kf : ¬ b ≤ a → W p l e R s m args below meth c H locs cells slots Q (F0 m (pc + 3) ls rest)) : W p l e R s m args below meth c H locs cells slots Q (F0 m pc ls (.int (iI b) :: .int (iI a) :: rest)) := lv_icmp_ge hx hb hd ht (fun h => kt ((iI_le hb2 ha).1 h)) (fun h => kf (fun q => h ((iI_le hb2 ha).2 q)))
theorem sk_icmp_gt {off : Int} {tgt : Nat} (hx : p.tables.exec = Jvm.exec) (hb : c.code = cc) (ha : rI a) (hb2 : rI b) (hd : decode cc pc = .ok (.if_icmp .gt off, 3)) (ht : (pc : Int) + off = (tgt : Int)) (kt : b < a → W p l e R s m args below meth c H locs cells slots Q (F0 m tgt ls rest)) (kf : ¬ b < a → W p l e R s m args below meth c H locs cells slots Q (F0 m (pc + 3) ls rest)) : W p l e R s m args below meth c H locs cells slots Q (F0 m pc ls (.int (iI b) :: .int (iI a) :: rest)) := lv_icmp_gt hx hb hd ht (fun h => kt ((iI_lt hb2 ha).1 h)) (fun h => kf (fun q => h ((iI_lt hb2 ha).2 q)))
theorem sk_icmp_le {off : Int} {tgt : Nat} (hx : p.tables.exec = Jvm.exec) (hb : c.code = cc) (ha : rI a) (hb2 : rI b) (hd : decode cc pc = .ok (.if_icmp .le off, 3)) (ht : (pc : Int) + off = (tgt : Int)) (kt : a ≤ b → W p l e R s m args below meth c H locs cells slots Q (F0 m tgt ls rest)) (kf : ¬ a ≤ b → W p l e R s m args below meth c H locs cells slots Q (F0 m (pc + 3) ls rest)) : W p l e R s m args below meth c H locs cells slots Q (F0 m pc ls (.int (iI b) :: .int (iI a) :: rest)) := lv_icmp_le hx hb hd ht (fun h => kt ((iI_le ha hb2).1 h)) (fun h => kf (fun q => h ((iI_le ha hb2).2 q)))
theorem rI0 : rI 0 := by decide
theorem sk_if_eq {off : Int} {tgt : Nat} (hx : p.tables.exec = Jvm.exec) (hb : c.code = cc) (ha : rI a) (hd : decode cc pc = .ok (.ifCond .eq off, 3)) (ht : (pc : Int) + off = (tgt : Int)) (kt : a = 0 → W p l e R s m args below meth c H locs cells slots Q (F0 m tgt ls rest)) (kf : ¬ a = 0 → W p l e R s m args below meth c H locs cells slots Q (F0 m (pc + 3) ls rest)) : W p l e R s m args below meth c H locs cells slots Q (F0 m pc ls (.int (iI a) :: rest)) := lv_if_eq hx hb hd ht (fun h => kt ((iI_eq ha rI0).1 h)) (fun h => kf (fun q => h (by rw [q]; rfl)))
theorem sk_if_ne {off : Int} {tgt : Nat} (hx : p.tables.exec = Jvm.exec) (hb : c.code = cc) (ha : rI a) (hd : decode cc pc = .ok (.ifCond .ne off, 3)) (ht : (pc : Int) + off = (tgt : Int)) (kt : ¬ a = 0 → W p l e R s m args below meth c H locs cells slots Q (F0 m tgt ls rest)) (kf : a = 0 → W p l e R s m args below meth c H locs cells slots Q (F0 m (pc + 3) ls rest)) : W p l e R s m args below meth c H locs cells slots Q (F0 m pc ls (.int (iI a) :: rest)) := lv_if_ne hx hb hd ht (fun h => kt (fun q => h (by rw [q]; rfl))) (fun h => kf ((iI_eq ha rI0).1 h))
theorem sk_if_lt {off : Int} {tgt : Nat} (hx : p.tables.exec = Jvm.exec) (hb : c.code = cc) (ha : rI a) (hd : decode cc pc = .ok (.ifCond .lt off, 3)) (ht : (pc : Int) + off = (tgt : Int)) (kt : a < 0 → W p l e R s m args below meth c H locs cells slots Q (F0 m tgt ls rest)) (kf : ¬ a < 0 → W p l e R s m args below meth c H locs cells slots Q (F0 m (pc + 3) ls rest)) : W p l e R s m args below meth c H locs cells slots Q (F0 m pc ls (.int (iI a) :: rest)) := lv_if_lt hx hb hd ht (fun h => kt ((iI_lt ha rI0).1 h)) (fun h => kf (fun q => h ((iI_lt ha rI0).2 q)))
theorem sk_if_ge {off : Int} {tgt : Nat} (hx : p.tables.exec = Jvm.exec) (hb : c.code = cc) (ha : rI a) (hd : decode cc pc = .ok (.ifCond .ge off, 3)) (ht : (pc : Int) + off = (tgt : Int)) (kt : 0 ≤ a → W p l e R s m args below meth c H locs cells slots Q (F0 m tgt ls rest)) (kf : ¬ 0 ≤ a → W p l e R s m args below meth c H locs cells slots Q (F0 m (pc + 3) ls rest)) : W p l e R s m args below meth c H locs cells slots Q (F0 m pc ls (.int (iI a) :: rest)) := lv_if_ge hx hb hd ht (fun h => kt ((iI_le rI0 ha).1 h)) (fun h => kf (fun q => h ((iI_le rI0 ha).2 q)))
theorem sk_if_gt {off : Int} {tgt : Nat} (hx : p.tables.exec = Jvm.exec) (hb : c.code = cc) (ha : rI a) (hd : decode cc pc = .ok (.ifCond .gt off, 3)) (ht : (pc : Int) + off = (tgt : Int)) (kt : 0 < a → W p l e R s m args below meth c H locs cells slots Q (F0 m tgt ls rest)) (kf : ¬ 0 < a → W p l e R s m args below meth c H locs cells slots Q (F0 m (pc + 3) ls rest)) : W p l e R s m args below meth c H locs cells slots Q (F0 m pc ls (.int (iI a) :: rest)) := lv_if_gt hx hb hd ht (fun h => kt ((iI_lt rI0 ha).1 h)) (fun h => kf (fun q => h ((iI_lt rI0 ha).2 q)))
theorem sk_if_le {off : Int} {tgt : Nat} (hx : p.tables.exec = Jvm.exec) (hb : c.code = cc) (ha : rI a) (hd : decode cc pc = .ok (.ifCond .le off, 3)) (ht : (pc : Int) + off = (tgt : Int)) (kt : a ≤ 0 → W p l e R s m args below meth c H locs cells slots Q (F0 m tgt ls rest)) (kf : ¬ a ≤ 0 → W p l e R s m args below meth c H locs cells slots Q (F0 m (pc + 3) ls rest)) : W p l e R s m args below meth c H locs cells slots Q (F0 m pc ls (.int (iI a) :: rest)) := lv_if_le hx hb hd ht (fun h => kt ((iI_le ha rI0).1 h)) (fun h => kf (fun q => h ((iI_le ha rI0).2 q)))
def lcmp (a b : Int) : Int := if a < b then -1 else if a = b then 0 else 1
theorem rI_lcmp (a b : Int) : rI (lcmp a b) := by unfold lcmp; split <;> (try split) <;> decide
theorem sk_lcmp (hx : p.tables.exec = Jvm.exec) (hb : c.code = cc) (ha : rL a) (hb2 : rL b) (hd : decode cc pc = .ok (.lcmp, 1)) (k : W p l e R s m args below meth c H locs cells slots Q (F0 m (pc + 1) ls (.int (iI (lcmp a b)) :: rest))) : W p l e R s m args below meth c H locs cells slots Q (F0 m pc ls (.long (lI b) :: .long (lI a) :: rest)) := by
  refine W.lcmp hx hb hd ?_
  rw [show lg_cmp (lI a) (lI b) = iI (lcmp a b) from ?_]
  · exact k
  · unfold lg_cmp lcmp
    by_cases h1 : a < b
    · have h2 : ¬ b < a := by omega
      have h3 : ¬ a = b := by omega
      rw [if_neg (fun q => h2 ((lI_lt hb2 ha).1 q)), if_neg (fun q => h3 ((lI_eq ha hb2).1 q)), if_pos h1]
      rfl
    · by_cases h3 : a = b
      · subst h3
        simp
        rfl
      · have h2 : b < a := by omega
        rw [if_pos ((lI_lt hb2 ha).2 h2), if_neg h1, if_neg h3]
        rfl
theorem lcmp_lt {a b : Int} : lcmp a b < 0 ↔ a < b := by unfold lcmp; split <;> (try split) <;> omega
theorem lcmp_ge {a b : Int} : 0 ≤ lcmp a b ↔ b ≤ a := by unfold lcmp; split <;> (try split) <;> omega
theorem lcmp_gt {a b : Int} : 0 < lcmp a b ↔ b < a := by unfold lcmp; split <;> (try split) <;> omega
theorem lcmp_le {a b : Int} : lcmp a b ≤ 0 ↔ a ≤ b := by unfold lcmp; split <;> (try split) <;> omega
theorem lcmp_eq {a b : Int} : lcmp a b = 0 ↔ a = b := by unfold lcmp; split <;> (try split) <;> omega
theorem sk_min (hx : p.tables.exec = Jvm.exec) (hb : c.code = cc) (hml : c.maxLocals = ls.size) {index : Nat} (hown : s.vm.findClass own = some m.cls) (hlink : (Cond.methodLink own index Lib.Math.min.name).before args s = true) (hstat : (Cond.static Lib.Math.min.name).before args s = true) (hini : (Cond.initialized "java/lang/Math").before args s = true) (hcode : (Cond.code Lib.Math.min.name Lib.Math.min.code 2 (some .int)).before args s = true)
    (hf : 1 ≤ R.frames ∧ (rest.map fun v => v.category).sum + 13 ≤ R.locals ∧ cells ≤ R.cells ∧ slots ≤ R.slots) (ha : rI a) (hb2 : rI b) (hdg : decode cc pc = .ok (.invokestatic index, 3)) (kk : W p l e R s m args below meth c H locs cells slots Q (F0 m (pc + 3) ls (.int (iI (imin a b)) :: rest))) : W p l e R s m args below meth c H locs cells slots Q (F0 m pc ls (.int (iI b) :: .int (iI a) :: rest)) := by
  refine va_mmin hx hb hml hown hlink hstat hini hcode hf.1 hf.2.1 hf.2.2.1 hf.2.2.2 hdg ?_
  rw [show (if iI b < iI a then iI b else iI a) = iI (imin a b) from ?_]
  · exact kk
  · unfold imin
    by_cases h : b < a
    · rw [if_pos ((iI_lt hb2 ha).2 h), if_pos h]
    · rw [if_neg (fun q => h ((iI_lt hb2 ha).1 q)), if_neg h]
theorem sk_max (hx : p.tables.exec = Jvm.exec) (hb : c.code = cc) (hml : c.maxLocals = ls.size) {index : Nat} (hown : s.vm.findClass own = some m.cls) (hlink : (Cond.methodLink own index Lib.Math.max.name).before args s = true) (hstat : (Cond.static Lib.Math.max.name).before args s = true) (hini : (Cond.initialized "java/lang/Math").before args s = true) (hcode : (Cond.code Lib.Math.max.name Lib.Math.max.code 2 (some .int)).before args s = true)
    (hf : 1 ≤ R.frames ∧ (rest.map fun v => v.category).sum + 13 ≤ R.locals ∧ cells ≤ R.cells ∧ slots ≤ R.slots) (ha : rI a) (hb2 : rI b) (hdg : decode cc pc = .ok (.invokestatic index, 3)) (kk : W p l e R s m args below meth c H locs cells slots Q (F0 m (pc + 3) ls (.int (iI (imax a b)) :: rest))) : W p l e R s m args below meth c H locs cells slots Q (F0 m pc ls (.int (iI b) :: .int (iI a) :: rest)) := by
  refine va_mmax hx hb hml hown hlink hstat hini hcode hf.1 hf.2.1 hf.2.2.1 hf.2.2.2 hdg ?_
  rw [show (if iI a < iI b then iI b else iI a) = iI (imax a b) from ?_]
  · exact kk
  · unfold imax
    by_cases h : a < b
    · rw [if_pos ((iI_lt ha hb2).2 h), if_pos h]
    · rw [if_neg (fun q => h ((iI_lt ha hb2).1 q)), if_neg h]
theorem sk_tabOut {dflt lo hi : Int} {offs : Array Int} {len tgt : Nat} (hx : p.tables.exec = Jvm.exec) (hb : c.code = cc) (ha : rI a) (h : a < lo ∨ hi < a) (hd : decode cc pc = .ok (.tableswitch dflt lo hi offs, len)) (ht : (pc : Int) + dflt = (tgt : Int)) (k : W p l e R s m args below meth c H locs cells slots Q (F0 m tgt ls rest)) : W p l e R s m args below meth c H locs cells slots Q (F0 m pc ls (.int (iI a) :: rest)) := lv_tableOut hx hb hd (by rw [iI_toInt ha]; exact h) ht k
theorem sk_tabIn {dflt lo hi off : Int} {offs : Array Int} {len tgt : Nat} (hx : p.tables.exec = Jvm.exec) (hb : c.code = cc) (ha : rI a) (h1 : lo ≤ a ∧ a ≤ hi) (ho : offs[(a - lo).toNat]? = some off) (hd : decode cc pc = .ok (.tableswitch dflt lo hi offs, len)) (ht : (pc : Int) + off = (tgt : Int)) (k : W p l e R s m args below meth c H locs cells slots Q (F0 m tgt ls rest)) : W p l e R s m args below meth c H locs cells slots Q (F0 m pc ls (.int (iI a) :: rest)) := lv_tableIn hx hb hd (by rw [iI_toInt ha]; omega) (by rw [iI_toInt ha]; omega) (by rw [iI_toInt ha]; exact ho) ht k
end SKO
section SKC
variable {p : Program} {l : Launch} {e : Env} {R : Room} {s : State} {m : MethodId} {args : Array Value} {below : List Frame} {meth : Method} {c : Code} {H : Heap} {locs : List Loc} {cells slots : Nat} {Q : State → Prop}
variable {cc : ByteArray} {pc nL : Nat} {ls : Array Slot} {rest st0 : List Value} {Ts ws ws' : List Cond} {own C : String} {G : sk_G} {n : Nat} {B : Int → Int → Bool} {I : sk_S} {a b : Int} {ci index maxL na : Nat} {y : MethodName} {bytes : ByteArray} {ret : Option FieldType} {rm : Room} {As : List Value} {free : Addr → Prop} {Pc : Array Value → State → Prop} {Qc : Array Value → State → Outcome → State → Prop}
theorem sk_back (ht : ∀ w ∈ Ts, w.before args s = true) (hM : Met l y ws rm Pc Qc 0 0 free) (hbl : FrameBlind Pc) (hrm : rm.cells = 0 ∧ rm.slots = 0) (hR : rm.frames + 1 ≤ R.frames ∧ 40 + (maxL + 11) + rm.locals ≤ R.locals) (hG : GoodIn Ts ws) (hw : ws = Cond.code y bytes maxL ret :: ws') (hini : (Cond.initialized y.cls).before args s = true) : Back l R p e below s args y 3 40 (PreOf R 0 0 Pc) (PostOf Qc 0 0 free) :=
  back_of (bytes := bytes) (maxL := maxL) (ret := ret) hM hbl hrm.1 hrm.2 hR.1 hR.2 (pay_in ht hG) (by rw [hw]; exact List.mem_cons_self) (fun a' U hW => word_at hW (Or.inl (by first | rfl | simp [Cond.onTables, Cond.keeps, Cond.steady])) hini)
theorem sk_runV (S : CallFix p m c cc nL s args Ts own) (hM : Met l y ws rm Pc Qc 0 0 free) (hbl : FrameBlind Pc) (hG : GoodIn Ts (wsV own index C y ws)) (hw : ws = Cond.code y bytes maxL ret :: ws') (hd : y.cls = C ∧ y.cls ≠ "java/lang/invoke/MethodHandle" ∧ y.cls ≠ "java/lang/invoke/VarHandle" ∧ (parseMethodDescriptor y.desc).map (fun d => d.parameters.length) = some na) (hR : (rm.cells = 0 ∧ rm.slots = 0) ∧ rm.frames + 1 ≤ R.frames ∧ 40 + (maxL + 11) + rm.locals ≤ R.locals) (hrecv : ∃ cell : Cell, H[sk_ad G a]? = some cell ∧ cell.vm.isStatics = false ∧ s.vm.findClass C = some cell.cls) (hp : ∀ U : State, U.heap = H → s.WarmedH U.vm → Pc (Value.ref (sk_ad G a) :: As).toArray U) (hn : As.length = na) (hsize : ls.size = nL) (hstack : st0 = As.reverse ++ .ref (sk_ad G a) :: rest) (hW : (rest.map fun v => v.category).sum ≤ 40) (hdg : decode cc pc = .ok (.invokevirtual index, 3)) (hf : cells ≤ R.cells ∧ slots ≤ R.slots) :
    va_Run p l e R s m args below meth c H locs cells slots 0 0 (F0 m pc ls st0) rest (Qc (Value.ref (sk_ad G a) :: As).toArray) free := by
  obtain ⟨hx, hb, hml, ho, ht⟩ := S
  obtain ⟨hC, hd⟩ := hd
  subst hC
  have ok : ∀ w ∈ wsV own index y.cls y ws, w.before args s = true := fun w h => ht w (hG w h).1
  have hK : Back l R p e below s args y 3 40 (PreOf R 0 0 Pc) (PostOf Qc 0 0 free) := sk_back ht hM hbl hR.1 hR.2 (fun w h => hG w (by unfold wsV; exact List.mem_append_right _ h)) hw (ok _ (by simp [wsV]))
  have hcode : (Cond.code y bytes maxL ret).before args s = true := ok _ (by unfold wsV; rw [hw]; simp)
  obtain ⟨cellB, hcB, hoB, hclB⟩ := hrecv
  have hlen : ∀ sig, parseMethodDescriptor y.desc = some sig → As.length = sig.parameters.length := fun sig h => by
    have h2 := hd.2.2
    rw [h] at h2
    exact hn.trans (Option.some.inj h2).symm
  intro T hT X
  obtain ⟨v, vm₁, ⟨U', l2, c2, s2⟩, hW₁, X', ⟨g', mk, t, L, e1, e2, hq, h1, hL, h2, h3⟩, st⟩ := callV X hx (C := y.cls) (bytes := bytes) (maxL := maxL) (ret := ret) (index := index) ho (ok _ (by simp [wsV])) (ok _ (by simp [wsV])) (ok _ (by simp [wsV])) hcode ⟨hd.1, hd.2.1⟩ hK (by rw [hT]; exact hcB) hoB hclB (g := F0 m pc ls st0) rfl (hsize.trans hml.symm) (argsL := As) (rest := rest) hlen hstack (by simpa using hW) (by rw [hb]; exact hdg)
    (fun vm₁ hW₁ => ⟨hf.1, hf.2, hp (T.setVm vm₁) hT hW₁⟩)
  dsimp only [Pt.U, Pt.locs, Pt.cells, Pt.slots] at X' e1 e2 h1 h2 h3 st
  subst h1; subst h2; subst h3
  exact ⟨v, (T.setVm vm₁).calling g' mk (Value.ref (sk_ad G a) :: As).toArray, t, U', L, hT, X', hL, e1, e2, hq, st⟩
theorem sk_runS (S : CallFix p m c cc nL s args Ts own) (hM : Met l y ws rm Pc Qc 0 0 free) (hbl : FrameBlind Pc) (hG : GoodIn Ts (va_wsS own index y ws)) (hw : ws = Cond.code y bytes maxL ret :: ws') (hd : y.cls ≠ "java/lang/invoke/MethodHandle" ∧ y.cls ≠ "java/lang/invoke/VarHandle" ∧ (parseMethodDescriptor y.desc).map (fun d => d.parameters.length) = some na) (hR : (rm.cells = 0 ∧ rm.slots = 0) ∧ rm.frames + 1 ≤ R.frames ∧ 40 + (maxL + 11) + rm.locals ≤ R.locals) (hp : ∀ U : State, U.heap = H → s.WarmedH U.vm → Pc As.toArray U) (hn : As.length = na) (hsize : ls.size = nL) (hstack : st0 = As.reverse ++ rest) (hW : (rest.map fun v => v.category).sum ≤ 40) (hdg : decode cc pc = .ok (.invokestatic index, 3)) (hf : cells ≤ R.cells ∧ slots ≤ R.slots) :
    va_Run p l e R s m args below meth c H locs cells slots 0 0 (F0 m pc ls st0) rest (Qc As.toArray) free := by
  obtain ⟨hx, hb, hml, ho, ht⟩ := S
  have ok : ∀ w ∈ va_wsS own index y ws, w.before args s = true := fun w h => ht w (hG w h).1
  have hini : (Cond.initialized y.cls).before args s = true := ok _ (by simp [va_wsS])
  have hK : Back l R p e below s args y 3 40 (PreOf R 0 0 Pc) (PostOf Qc 0 0 free) := sk_back ht hM hbl hR.1 hR.2 (fun w h => hG w (by unfold va_wsS; exact List.mem_append_right _ h)) hw hini
  have hcode : (Cond.code y bytes maxL ret).before args s = true := ok _ (by unfold va_wsS; rw [hw]; simp)
  have hlen : ∀ sig, parseMethodDescriptor y.desc = some sig → As.length = sig.parameters.length := fun sig h => by
    have h2 := hd.2.2
    rw [h] at h2
    exact hn.trans (Option.some.inj h2).symm
  intro T hT X
  obtain ⟨v, vm₁, ⟨U', l2, c2, s2⟩, hW₁, X', ⟨g', mk, t, L, e1, e2, hq, h1, hL, h2, h3⟩, st⟩ := callS X hx (bytes := bytes) (maxL := maxL) (ret := ret) (index := index) ho (ok _ (by simp [va_wsS])) (ok _ (by simp [va_wsS])) hini hcode ⟨hd.1, hd.2.1⟩ hK (g := F0 m pc ls st0) rfl (hsize.trans hml.symm) (argsL := As) (rest := rest) hlen hstack (by simpa using hW) (by rw [hb]; exact hdg)
    (fun vm₁ hW₁ => ⟨hf.1, hf.2, hp (T.setVm vm₁) hT hW₁⟩)
  dsimp only [Pt.U, Pt.locs, Pt.cells, Pt.slots] at X' e1 e2 h1 h2 h3 st
  subst h1; subst h2; subst h3
  exact ⟨v, (T.setVm vm₁).calling g' mk As.toArray, t, U', L, hT, X', hL, e1, e2, hq, st⟩
variable {Qp : Int → sk_S → Prop} {Qu : sk_S → Prop} {aa : Array Value}
theorem sk_ci (hr : va_Run p l e R s m args below meth c H locs cells slots 0 0 (F0 m pc ls st0) rest (sk_Qi G n B Qp aa) (sk_A G)) (hw : sk_W G n B I s H locs)
    (kk : ∀ (r : Int) (I : sk_S) (H : Heap) (locs : List Loc), rI r → Qp r I → sk_W G n B I s H locs → W p l e R s m args below meth c H locs cells slots Q (F0 m (pc + 3) ls (.int (iI r) :: rest))) : W p l e R s m args below meth c H locs cells slots Q (F0 m pc ls st0) := by
  refine va_calli hr hw.2 (fun _ _ h => h) (fun _ h => h) (fun r u t H1 locs1 ht hvm hq hB hz hk hS => ?_)
  obtain ⟨h1, h2, h3⟩ := hq
  subst h1
  exact kk u.1 u.2 H1 locs1 h2 h3 ⟨by rw [← ht]; exact hB.1, hS⟩
theorem sk_cv (hr : va_Run p l e R s m args below meth c H locs cells slots 0 0 (F0 m pc ls st0) rest (sk_Qv G n B Qu aa) (sk_A G)) (hw : sk_W G n B I s H locs)
    (kk : ∀ (I : sk_S) (H : Heap) (locs : List Loc), Qu I → sk_W G n B I s H locs → W p l e R s m args below meth c H locs cells slots Q (F0 m (pc + 3) ls rest)) : W p l e R s m args below meth c H locs cells slots Q (F0 m pc ls st0) := by
  refine va_callv hr hw.2 (fun _ _ h => h) (fun _ h => h) (fun u t H1 locs1 ht hvm hq hB hz hk hS => ?_)
  exact kk u H1 locs1 hq ⟨by rw [← ht]; exact hB.1, hS⟩
theorem sk_cr (hr : va_Run p l e R s m args below meth c H locs cells slots 0 0 (F0 m pc ls st0) rest (sk_Qr G n B ci Qp aa) (sk_A G)) (hw : sk_W G n B I s H locs)
    (kk : ∀ (r : Int) (I : sk_S) (H : Heap) (locs : List Loc), kd r = ci → Qp r I → sk_W G n B I s H locs → W p l e R s m args below meth c H locs cells slots Q (F0 m (pc + 3) ls (.ref (sk_ad G r) :: rest))) : W p l e R s m args below meth c H locs cells slots Q (F0 m pc ls st0) := by
  refine va_callr hr hw.2 (fun _ _ h => h) (fun _ h => h) (fun u r t H1 locs1 ht hvm hq hB hz hk hS => ?_)
  obtain ⟨e1, hB⟩ := hB
  subst e1
  exact kk u.1 u.2 H1 locs1 hq.1 hq.2 ⟨by rw [← ht]; exact hB.1, hS⟩
theorem sk_pre (hK : sk_K G s) (hw : sk_W G n B I s H locs) {av : List Value} : ∀ U : State, U.heap = H → s.WarmedH U.vm → va_Pc av (sk_U G n B I) av.toArray U := fun U hU hW => ⟨rfl, by rw [hU]; exact hw.1, hK.moved hW⟩
/-! ends -/
theorem sk_iret {v : Int} (hx : p.tables.exec = Jvm.exec) (hb : c.code = cc) (hr : meth.sig.returnType = some .int) (hlocks : meth.locks = false) (hK : sk_K G s) (hw : sk_W G n B I s H locs) (hv : rI v) (hq : Qp v I) (hdg : decode cc pc = .ok (.ireturn, 1)) : W p l e R s m args below meth c H locs cells slots (MQ below (sk_Qi G n B Qp) args s cells slots (sk_A G)) (F0 m pc ls [.int (iI v)]) :=
  W.iret hx hb hr (fun t ht hW => ⟨⟨iI v, (v, I), rfl, ⟨rfl, hv, hq⟩, by rw [ht]; exact hw.1, hK.moved hW⟩, hw.2.F ht⟩) hw.2.2.2 hdg hlocks
theorem sk_zret {v : Int} (hx : p.tables.exec = Jvm.exec) (hb : c.code = cc) (hr : meth.sig.returnType = some .boolean) (hlocks : meth.locks = false) (hK : sk_K G s) (hw : sk_W G n B I s H locs) (hv : v = 0 ∨ v = 1) (hq : Qp v I) (hdg : decode cc pc = .ok (.ireturn, 1)) : W p l e R s m args below meth c H locs cells slots (MQ below (sk_Qz G n B Qp) args s cells slots (sk_A G)) (F0 m pc ls [.int (iI v)]) :=
  W.zret hx hb hr (by rcases hv with rfl | rfl <;> rfl) (fun t ht hW => ⟨⟨iI v, (v, I), rfl, ⟨rfl, (by rcases hv with h | h <;> rw [h] <;> decide : rI v), hv, hq⟩, by rw [ht]; exact hw.1, hK.moved hW⟩, hw.2.F ht⟩) hw.2.2.2 hdg hlocks
theorem sk_aret {v : Int} {rt : FieldType} (hx : p.tables.exec = Jvm.exec) (hb : c.code = cc) (hr : meth.sig.returnType = some rt) (hrt : ∃ n, rt = .object n) (hlocks : meth.locks = false) (hK : sk_K G s) (hw : sk_W G n B I s H locs) (hv : kd v = ci) (hq : Qp v I) (hdg : decode cc pc = .ok (.areturn, 1)) : W p l e R s m args below meth c H locs cells slots (MQ below (sk_Qr G n B ci Qp) args s cells slots (sk_A G)) (F0 m pc ls [.ref (sk_ad G v)]) :=
  W.aret hx hb hr (Or.inl hrt) (Or.inr ⟨_, rfl⟩) (fun t ht hW => ⟨⟨(v, I), sk_ad G v, rfl, ⟨hv, hq⟩, rfl, by rw [ht]; exact hw.1, hK.moved hW⟩, hw.2.F ht⟩) hw.2.2.2 hdg hlocks
theorem sk_vret (hx : p.tables.exec = Jvm.exec) (hb : c.code = cc) (hr : meth.sig.returnType = none) (hlocks : meth.locks = false) (hK : sk_K G s) (hw : sk_W G n B I s H locs) (hq : Qu I) (hdg : decode cc pc = .ok (.return_, 1)) : W p l e R s m args below meth c H locs cells slots (MQ below (sk_Qv G n B Qu) args s cells slots (sk_A G)) (F0 m pc ls []) :=
  W.vret hx hb hr (fun t ht hW => ⟨⟨I, rfl, hq, by rw [ht]; exact hw.1, hK.moved hW⟩, hw.2.F ht⟩) hw.2.2.2 hdg hlocks
end SKC
