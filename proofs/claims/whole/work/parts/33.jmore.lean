/-! more rows for texts -/
theorem vm_J7_150 : Cond.methodLink RJ7 150 arraycopyName ∈ vs_ws := vs_mem 1006 (by decide +kernel) (by decide +kernel)
theorem vs_cl1 : Cond.methodLink RJ7 310 ⟨"[B", "clone", "()Ljava/lang/Object;"⟩ ∈ vs_ws := vs_mem 998 (by decide +kernel) (by decide +kernel)
theorem vs_cl2 : Cond.sameMethod "[B" "java/lang/Object" "clone" "()Ljava/lang/Object;" ∈ vs_ws := vs_mem 999 (by decide +kernel) (by decide +kernel)
theorem vs_cl3 : Cond.native ⟨"java/lang/Object", "clone", "()Ljava/lang/Object;"⟩ ∈ vs_ws := vs_mem 1000 (by decide +kernel) (by decide +kernel)
theorem vs_cl4 : Cond.instanceMethod ⟨"java/lang/Object", "clone", "()Ljava/lang/Object;"⟩ ∈ vs_ws := vs_mem 1001 (by decide +kernel) (by decide +kernel)
theorem vs_cl5 : Cond.selects "[B" ⟨"[B", "clone", "()Ljava/lang/Object;"⟩ ⟨"java/lang/Object", "clone", "()Ljava/lang/Object;"⟩ ∈ vs_ws := vs_mem 1002 (by decide +kernel) (by decide +kernel)
theorem vs_cl6 : Cond.classLink RJ7 311 "[B" ∈ vs_ws := vs_mem 1004 (by decide +kernel) (by decide +kernel)
theorem vi_J4 : Cond.instantiable RJ4 4 ∈ vs_ws ∧ Cond.initialized RJ4 ∈ vs_ws := ⟨vs_mem 238 (by decide +kernel) (by decide +kernel), vs_mem 87 (by decide +kernel) (by decide +kernel)⟩
theorem vi_J0 : Cond.instantiable RJ0 4 ∈ vs_ws ∧ Cond.initialized RJ0 ∈ vs_ws := ⟨vs_mem 538 (by decide +kernel) (by decide +kernel), vs_mem 88 (by decide +kernel) (by decide +kernel)⟩
theorem vl_J4_18 : Cond.classLink RJ4 18 RJ0 ∈ vs_ws := vs_mem 1110 (by decide +kernel) (by decide +kernel)
theorem vl_X3_227 : Cond.classLink RX3 227 RJ4 ∈ vs_ws := vs_mem 1640 (by decide +kernel) (by decide +kernel)
theorem vs_andT : ∀ n : Fin 256, vs_I (n.val : Int) &&& vs_I 255 = vs_I (n.val : Int) := by decide +kernel
section VSN
variable {p : Program} {l : Launch} {e : Env} {R : Room} {s : State} {m : MethodId} {args : Array Value} {below : List Frame} {meth : Method} {c : Code} {H : Heap} {locs : List Loc} {cells slots : Nat} {Q : State → Prop}
variable {cc : ByteArray} {pc nL : Nat} {ls : Array Slot} {rest : List Value} {own : String} {g : vs_G} {jd : Nat → Nat} {A : Nat → Prop} {H0 : Heap} {Wo : va_W} {a b : Nat}
theorem vs_ishr0 (hC : CallFix p m c cc nL s args vs_ws own) {x : Int} (hdg : decode cc pc = .ok (.ishr, 1)) (k : W p l e R s m args below meth c H locs cells slots Q (F0 m (pc + 1) ls (.int (vs_I x) :: rest))) : W p l e R s m args below meth c H locs cells slots Q (F0 m pc ls (.int (vs_I 0) :: .int (vs_I x) :: rest)) :=
  lv_ishr hC.1 hC.2.1 hdg (by rw [show (vs_I 0 &&& 31 : Int32) = 0 from by decide +kernel, Int32.shiftRight_zero]; exact k)
theorem vs_ishl0 (hC : CallFix p m c cc nL s args vs_ws own) {x : Int} (hdg : decode cc pc = .ok (.ishl, 1)) (k : W p l e R s m args below meth c H locs cells slots Q (F0 m (pc + 1) ls (.int (vs_I x) :: rest))) : W p l e R s m args below meth c H locs cells slots Q (F0 m pc ls (.int (vs_I 0) :: .int (vs_I x) :: rest)) :=
  lv_ishl hC.1 hC.2.1 hdg (by rw [show (vs_I 0 &&& 31 : Int32) = 0 from by decide +kernel, Int32.shiftLeft_zero]; exact k)
theorem vs_iand255 (hC : CallFix p m c cc nL s args vs_ws own) {x : Int} (hx : 0 ≤ x ∧ x < 256) (hdg : decode cc pc = .ok (.iand, 1)) (k : W p l e R s m args below meth c H locs cells slots Q (F0 m (pc + 1) ls (.int (vs_I x) :: rest))) : W p l e R s m args below meth c H locs cells slots Q (F0 m pc ls (.int (vs_I 255) :: .int (vs_I x) :: rest)) :=
  lv_iand hC.1 hC.2.1 hdg (by
    have h := vs_andT ⟨x.toNat, by omega⟩
    have e : ((x.toNat : Nat) : Int) = x := Int.toNat_of_nonneg hx.1
    rw [e] at h; rw [h]; exact k)
theorem vs_null (hC : CallFix p m c cc nL s args vs_ws own) (hdg : decode cc pc = .ok (.aconst_null, 1)) (k : W p l e R s m args below meth c H locs cells slots Q (F0 m (pc + 1) ls (.null :: rest))) : W p l e R s m args below meth c H locs cells slots Q (F0 m pc ls rest) := lv_null hC.1 hC.2.1 hdg k
theorem vs_putG (hC : CallFix p m c cc nL s args vs_ws own) (hW : vs_Wd g A H0 Wo H locs s) (q0 : Nat) {C : String} {T : u_T} {N ci index : Nat} {fs : List Value} (he : Wo[q0]? = some (a, .inr (ci, fs))) (hc : vwCl[ci]? = some (C, T, N)) (hin : ∀ w ∈ u_ws C T N, w ∈ vs_ws) {ty0 : Nat → FieldType} (hty : ∀ k, k < N → parseFieldDescriptor (T k).2.2.1 = some (ty0 k)) (hnm : ∀ a, a < N → ∀ b, b < N → a ≠ b → (T a).2.1 ≠ (T b).2.1) (k : Nat) (hk : k < N) (hlink : Cond.fieldLink own index (T k).1 (T k).2.1 (T k).2.2.1 ∈ vs_ws) (hfin : (T k).2.2.2 = false) {v : Value} (hn : narrow (ty0 k) v = v) (hfit : fits (ty0 k) v = true) (hl : k < fs.length) {Wo' : va_W} (hset : Wo.set q0 (a, .inr (ci, fs.set k v)) = Wo')
    (hdg : decode cc pc = .ok (.putfield index, 3)) (kk : ∀ (H1 : Heap) (locs1 : List Loc), vs_Wd g A H0 Wo' H1 locs1 s → W p l e R s m args below meth c H1 locs1 cells slots Q (F0 m (pc + 3) ls rest)) : W p l e R s m args below meth c H locs cells slots Q (F0 m pc ls (v :: .ref a :: rest)) := by
  subst hset
  exact va_put hC.1 hC.2.1 hC.2.2.2.2 hin ty0 hty hnm hC.2.2.2.1 hW.1.1 hW.2.1 hW.2.2.1 hW.2.2.2.1 q0 he hc k hk (hC.2.2.2.2 _ hlink) (fun _ h => h) hfin (ty := ty0 k) (hty k hk) hn hfit hl hdg (fun H1 locs1 h1 h2 h3 => kk H1 locs1 ⟨hW.1, h1, h2, h3, hW.2.2.2.2⟩)
theorem vs_fitB {x : Int} (hx : -128 ≤ x ∧ x < 128) : fits .byte (.int (vs_I x)) = true := by
  show (decide (-128 ≤ vs_I x) && decide (vs_I x ≤ 127)) = true
  have h1 : (-128 : Int32) = vs_I (-128) := by decide +kernel
  have h2 : (127 : Int32) = vs_I 127 := by decide +kernel
  rw [h1, h2, decide_eq_true ((vs_I_le ⟨by omega, by omega⟩ ⟨by omega, by omega⟩).mpr hx.1), decide_eq_true ((vs_I_le ⟨by omega, by omega⟩ ⟨by omega, by omega⟩).mpr (by omega))]
  rfl
def vs_cpB (f f1 : Int → Int) (N : Int) : Int → Int := fun e => if 0 ≤ e ∧ e < N then f e else f1 e
theorem vs_acopyB (hC : CallFix p m c cc nL s args vs_ws own) (hW : vs_Wd g A H0 Wo H locs s) (q0 q1 : Nat) {n n1 : Nat} {N : Int} {f f1 : Int → Int} (he : Wo[q0]? = some (b, .inl (g.2 6, n, .inl (vs_en f)))) (he1 : Wo[q1]? = some (a, .inl (g.2 6, n1, .inl (vs_en f1)))) (hN : 0 ≤ N ∧ N ≤ (n : Int) ∧ N ≤ (n1 : Int) ∧ N ≤ 2147483647) (hf : ∀ j : Int, 0 ≤ j → j < N → -128 ≤ f j ∧ f j < 128) (hls : ls.size = nL) {index : Nat} (hl : Cond.methodLink own index arraycopyName ∈ vs_ws) {Wo' : va_W} (hset : Wo.set q1 (a, .inl (g.2 6, n1, .inl (vs_en (vs_cpB f f1 N)))) = Wo')
    (h1 : 1 ≤ R.frames) (h2 : (rest.map fun v => v.category).sum + (nativeFrameWords "java/lang/System" "arraycopy" 5 + 11) ≤ R.locals) (hdg : decode cc pc = .ok (.invokestatic index, 3))
    (kk : ∀ (H1 : Heap) (locs1 : List Loc), vs_Wd g A H0 Wo' H1 locs1 s → W p l e R s m args below meth c H1 locs1 cells slots Q (F0 m (pc + 3) ls rest)) : W p l e R s m args below meth c H locs cells slots Q (F0 m pc ls (.int (vs_I N) :: .int (vs_I 0) :: .ref a :: .int (vs_I 0) :: .ref b :: rest)) := by
  subst hset
  have z0 : ¬ vs_I 0 < 0 := by decide +kernel
  have z1 : (vs_I 0).toNatClampNeg = 0 := by decide +kernel
  have z2 : (vs_I N).toNatClampNeg = N.toNat := vs_I_nat hN.1 hN.2.2.2
  have z3 : ¬ vs_I N < 0 := by rw [← vs_I_0, vs_I_lt ⟨by omega, by omega⟩ vs_R0]; omega
  have z4 : va_cpy (vs_en f) (vs_en f1) 0 0 N.toNat = vs_en (vs_cpB f f1 N) := by
    funext j
    unfold va_cpy vs_en vs_cpB
    by_cases q : j < N.toNat
    · rw [if_pos (by omega)]; refine congrArg vs_I ?_; rw [if_pos (by omega)]; congr 1; omega
    · rw [if_neg (by omega)]; refine congrArg vs_I ?_; rw [if_neg (by omega)]
  refine va_copyi hC.1 hC.2.1 (by rw [hC.2.2.1, hls]) hC.2.2.2.1 (hC.2.2.2.2 _ hl) (hC.2.2.2.2 _ vs_ac1) (hC.2.2.2.2 _ vs_ac2) (hC.2.2.2.2 _ vs_ac3) hW.1.1 hW.2.1 hW.2.2.1 hW.2.2.2.1 q0 q1 6 6 he he1 rfl rfl rfl z0 z0 z3 (by rw [z1, z2]; omega) (by rw [z1, z2]; omega) (fun i hi => by rw [z2] at hi; rw [z1, Nat.zero_add]; exact vs_fitB (hf i (by omega) (by omega))) h1 h2 hdg (fun H1 locs1 k1 k2 k3 => kk H1 locs1 ⟨hW.1, ?_, ?_, k3, hW.2.2.2.2⟩)
  · rw [z1, z2, z4] at k1; exact k1
  · rw [z1, z2, z4] at k2; exact k2
theorem vs_cloneB (hC : CallFix p m c cc nL s args vs_ws RJ7) {x r : va_W} (hW : vs_Wd g A H0 (x ++ r) H locs s) (hJ : vs_Js g jd A s H0) (q0 : Nat) {n : Nat} {f : Int → Int} (he : (x ++ r)[q0]? = some (a, .inl (g.2 6, n, .inl (vs_en f)))) (hf : ∀ j : Int, 0 ≤ j → j < n → -128 ≤ f j ∧ f j < 128) (hls : ls.size = nL) (h0 : 1 ≤ R.frames) (h2 : (rest.map fun v => v.category).sum + 14 ≤ R.locals) (h3 : cells + 1 ≤ R.cells) (h4 : slots + n ≤ R.slots) (hdg : decode cc pc = .ok (.invokevirtual 310, 3))
    (kk : ∀ (q : Nat) (H1 : Heap), vs_Wd g A H0 ((x ++ [(q, .inl (g.2 6, n, .inl (vs_en f)))]) ++ r) H1 locs s → W p l e R s m args below meth c H1 locs (cells + 1) (slots + n) Q (F0 m (pc + 3) ls (.ref q :: rest))) : W p l e R s m args below meth c H locs cells slots Q (F0 m pc ls (.ref a :: rest)) := by
  have hT := hC.2.2.2.2
  refine va_clone (x := (n, .inl (vs_en f))) hC.1 hC.2.1 (by rw [hC.2.2.1, hls]) hC.2.2.2.1 (hT _ vs_cl1) (hT _ vs_cl2) (hT _ vs_cl3) (hT _ vs_cl4) (hT _ vs_cl5) hJ.2.2.2.2.2.1 hW.1.1 hW.2.1 hW.2.2.1 hW.2.2.2.1 hW.2.2.2.2 q0 6 he rfl (va_nm_byte (hW.1.1.2 6 (g.2 6, .byte) rfl).2) (fun i v hv => ?_) h0 h2 h3 h4 hdg (fun q H1 k1 k2 k3 k4 => kk q H1 (vs_Wd.perm2 (w1 := (x ++ r) ++ [(q, .inl (g.2 6, n, .inl (vs_en f)))]) ⟨hW.1, k2, k3, k4, hW.2.2.2.2⟩ vs_pp))
  exact va_fit (ty := .byte) (cA := g.2 6) (n := n) (F := fun j => .int (vs_en f j)) (fun j hj => vs_fitB (hf j (by omega) (by omega))) i v hv
theorem vs_castB (hC : CallFix p m c cc nL s args vs_ws RJ7) (hW : vs_Wd g A H0 Wo H locs s) (q0 : Nat) {x : vp_A} (he : Wo[q0]? = some (a, .inl (g.2 6, x))) (hdg : decode cc pc = .ok (.checkcast 311, 3))
    (k : W p l e R s m args below meth c H locs cells slots Q (F0 m (pc + 3) ls (.ref a :: rest))) : W p l e R s m args below meth c H locs cells slots Q (F0 m pc ls (.ref a :: rest)) := by
  have h1 : H[a]? = some (vp_cell (g.2 6) x) := hW.2.1 q0 _ he
  have hvm0 : (vp_cell (g.2 6) x).vm = .none := by obtain ⟨n, f | f | f | f | f⟩ := x <;> rfl
  have hcl0 : (vp_cell (g.2 6) x).cls = g.2 6 := by obtain ⟨n, f | f | f | f | f⟩ := x <;> rfl
  have f2 := va_nm_byte (hW.1.1.2 6 (g.2 6, .byte) rfl).2
  intro T hT X
  obtain ⟨vm', X', st⟩ := X.checkcastYes hC.1 hC.2.2.2.1 (hC.2.2.2.2 _ vs_cl6) (by rw [hT]; exact h1) (by rw [hvm0]; rfl) f2 (by rw [hcl0]; exact va_asg _ _) (g := F0 m pc ls (.ref a :: rest)) rfl rfl (by rw [hC.2.1]; exact hdg)
  obtain ⟨t, a1, b1⟩ := k (T.setVm vm') hT X'
  exact ⟨t, st t a1, b1⟩
theorem vs_newSB (hC : CallFix p m c cc nL s args vs_ws own) {x r : va_W} (hW : vs_Wd g A H0 (x ++ r) H locs s) {index : Nat} (hl : Cond.classLink own index RJ4 ∈ vs_ws) (h1 : cells + 1 ≤ R.cells) (h2 : slots + 4 ≤ R.slots) (hdg : decode cc pc = .ok (.new index, 3))
    (kk : ∀ (q : Nat) (H1 : Heap), vs_Wd g A H0 ((x ++ [(q, .inr (1, [.null, .int (vs_I 0), .int (vs_I 0), .int (vs_I 0)]))]) ++ r) H1 locs s → W p l e R s m args below meth c H1 locs (cells + 1) (slots + 4) Q (F0 m (pc + 3) ls (.ref q :: rest))) : W p l e R s m args below meth c H locs cells slots Q (F0 m pc ls rest) :=
  va_new (ci := 1) (N := 4) (T := TJ4) (fs := [.null, .int (vs_I 0), .int (vs_I 0), .int (vs_I 0)]) hC.1 hC.2.1 hC.2.2.2.2 vs_inJ4 tyJ4 tyJ4_ok hC.2.2.2.1 (hC.2.2.2.2 _ hl) (hC.2.2.2.2 _ vi_J4.1) (hC.2.2.2.2 _ vi_J4.2) hW.1.1 hW.2.1 hW.2.2.1 hW.2.2.2.1 hW.2.2.2.2 rfl (by intro j hj; match j, hj with | 0, _ => rfl | 1, _ => rfl | 2, _ => rfl | 3, _ => rfl) h1 h2 hdg
    (fun q H1 k2 k3 k4 => kk q H1 (vs_Wd.perm2 (w1 := (x ++ r) ++ [(q, .inr (1, [.null, .int (vs_I 0), .int (vs_I 0), .int (vs_I 0)]))]) ⟨hW.1, k2, k3, k4, hW.2.2.2.2⟩ vs_pp))
theorem vs_newST (hC : CallFix p m c cc nL s args vs_ws own) {x r : va_W} (hW : vs_Wd g A H0 (x ++ r) H locs s) {index : Nat} (hl : Cond.classLink own index RJ0 ∈ vs_ws) (h1 : cells + 1 ≤ R.cells) (h2 : slots + 4 ≤ R.slots) (hdg : decode cc pc = .ok (.new index, 3))
    (kk : ∀ (q : Nat) (H1 : Heap), vs_Wd g A H0 ((x ++ [(q, .inr (0, [.null, .int (vs_I 0), .int (vs_I 0), .int (vs_I 0)]))]) ++ r) H1 locs s → W p l e R s m args below meth c H1 locs (cells + 1) (slots + 4) Q (F0 m (pc + 3) ls (.ref q :: rest))) : W p l e R s m args below meth c H locs cells slots Q (F0 m pc ls rest) :=
  va_new (ci := 0) (N := 4) (T := TJ0) (fs := [.null, .int (vs_I 0), .int (vs_I 0), .int (vs_I 0)]) hC.1 hC.2.1 hC.2.2.2.2 vs_inJ0 tyJ0 tyJ0_ok hC.2.2.2.1 (hC.2.2.2.2 _ hl) (hC.2.2.2.2 _ vi_J0.1) (hC.2.2.2.2 _ vi_J0.2) hW.1.1 hW.2.1 hW.2.2.1 hW.2.2.2.1 hW.2.2.2.2 rfl (by intro j hj; match j, hj with | 0, _ => rfl | 1, _ => rfl | 2, _ => rfl | 3, _ => rfl) h1 h2 hdg
    (fun q H1 k2 k3 k4 => kk q H1 (vs_Wd.perm2 (w1 := (x ++ r) ++ [(q, .inr (0, [.null, .int (vs_I 0), .int (vs_I 0), .int (vs_I 0)]))]) ⟨hW.1, k2, k3, k4, hW.2.2.2.2⟩ vs_pp))
/-- the world without some of its cells -/
theorem vs_Wd.sub {w1 w2 : va_W} (h : vs_Wd g A H0 (w1 ++ w2) H locs s) : vs_Wd g A H0 w2 H locs s := by
  have hg : ∀ (k : Nat) (e : Nat × va_E), w2[k]? = some e → (w1 ++ w2)[w1.length + k]? = some e := fun k e he => by
    rw [List.getElem?_append_right (Nat.le_add_right _ _), Nat.add_sub_cancel_left]; exact he
  exact ⟨h.1, fun q0 e he => h.2.1 _ e (hg q0 e he), ⟨fun i j p q hp hq e => by have := h.2.2.1.1 _ _ p q (hg i p hp) (hg j q hq) e; omega, fun k q hk => h.2.2.1.2 _ q (hg k q hk)⟩, h.2.2.2⟩
end VSN
