/-! making objects and arrays -/
theorem vs_arI : Cond.arrayClass .int ∈ vs_ws := vs_mem 175 (by decide +kernel) (by decide +kernel)
theorem vs_arZ : Cond.arrayClass .boolean ∈ vs_ws := vs_mem 177 (by decide +kernel) (by decide +kernel)
theorem vs_arC : Cond.arrayClass .char ∈ vs_ws := vs_mem 176 (by decide +kernel) (by decide +kernel)
theorem vs_arL : Cond.arrayClass .long ∈ vs_ws := vs_mem 1665 (by decide +kernel) (by decide +kernel)
theorem vs_arD : Cond.arrayClass .double ∈ vs_ws := vs_mem 1666 (by decide +kernel) (by decide +kernel)
theorem vs_arB : Cond.arrayClass .byte ∈ vs_ws := vs_mem 269 (by decide +kernel) (by decide +kernel)
theorem vs_oi1 : Cond.instanceMethod Lib.objectInit ∈ vs_ws := vs_mem 114 (by decide +kernel) (by decide +kernel)
theorem vs_oi2 : Cond.code Lib.objectInit ⟨#[0xb1]⟩ 1 none ∈ vs_ws := vs_mem 115 (by decide +kernel) (by decide +kernel)
theorem vm_X2_3 : Cond.methodLink RX2 3 Lib.objectInit ∈ vs_ws := vs_mem 113 (by decide +kernel) (by decide +kernel)
theorem vm_X0_3 : Cond.methodLink RX0 3 Lib.objectInit ∈ vs_ws := vs_mem 183 (by decide +kernel) (by decide +kernel)
theorem vm_X1_3 : Cond.methodLink RX1 3 Lib.objectInit ∈ vs_ws := vs_mem 121 (by decide +kernel) (by decide +kernel)
theorem vm_X3_1 : Cond.methodLink RX3 1 Lib.objectInit ∈ vs_ws := vs_mem 1254 (by decide +kernel) (by decide +kernel)
theorem vm_J5_3 : Cond.methodLink RJ5 3 Lib.objectInit ∈ vs_ws := vs_mem 245 (by decide +kernel) (by decide +kernel)
theorem vm_J0_1 : Cond.methodLink RJ0 1 Lib.objectInit ∈ vs_ws := vs_mem 1117 (by decide +kernel) (by decide +kernel)
theorem vk_J7_fill_53178 : vs_lkS yJ7_fill_53178 cJ7_fill_53178 4 none 2 := ⟨vs_mem 123 (by decide +kernel) (by decide +kernel), vs_mem 84 (by decide +kernel) (by decide +kernel), vs_mem 124 (by decide +kernel) (by decide +kernel), by decide +kernel, by decide +kernel, by decide +kernel⟩
theorem vk_X0_init : Cond.instanceMethod yX0_init ∈ vs_ws ∧ Cond.initialized yX0_init.cls ∈ vs_ws ∧ Cond.code yX0_init cX0_init 1 none ∈ vs_ws := ⟨vs_mem 181 (by decide +kernel) (by decide +kernel), vs_mem 85 (by decide +kernel) (by decide +kernel), vs_mem 182 (by decide +kernel) (by decide +kernel)⟩
theorem vi_X0 : Cond.instantiable RX0 14 ∈ vs_ws ∧ Cond.initialized RX0 ∈ vs_ws := ⟨vs_mem 179 (by decide +kernel) (by decide +kernel), vs_mem 85 (by decide +kernel) (by decide +kernel)⟩
theorem vk_X1_init : Cond.instanceMethod yX1_init ∈ vs_ws ∧ Cond.initialized yX1_init.cls ∈ vs_ws ∧ Cond.code yX1_init cX1_init 1 none ∈ vs_ws := ⟨vs_mem 119 (by decide +kernel) (by decide +kernel), vs_mem 83 (by decide +kernel) (by decide +kernel), vs_mem 120 (by decide +kernel) (by decide +kernel)⟩
theorem vi_X1 : Cond.instantiable RX1 13 ∈ vs_ws ∧ Cond.initialized RX1 ∈ vs_ws := ⟨vs_mem 117 (by decide +kernel) (by decide +kernel), vs_mem 83 (by decide +kernel) (by decide +kernel)⟩
theorem vk_X2_init : Cond.instanceMethod yX2_init ∈ vs_ws ∧ Cond.initialized yX2_init.cls ∈ vs_ws ∧ Cond.code yX2_init cX2_init 1 none ∈ vs_ws := ⟨vs_mem 111 (by decide +kernel) (by decide +kernel), vs_mem 82 (by decide +kernel) (by decide +kernel), vs_mem 112 (by decide +kernel) (by decide +kernel)⟩
theorem vi_X2 : Cond.instantiable RX2 7 ∈ vs_ws ∧ Cond.initialized RX2 ∈ vs_ws := ⟨vs_mem 109 (by decide +kernel) (by decide +kernel), vs_mem 82 (by decide +kernel) (by decide +kernel)⟩
theorem vk_X3_init : Cond.instanceMethod yX3_init ∈ vs_ws ∧ Cond.initialized yX3_init.cls ∈ vs_ws ∧ Cond.code yX3_init cX3_init 1 none ∈ vs_ws := ⟨vs_mem 1252 (by decide +kernel) (by decide +kernel), vs_mem 90 (by decide +kernel) (by decide +kernel), vs_mem 1253 (by decide +kernel) (by decide +kernel)⟩
theorem vi_X3 : Cond.instantiable RX3 33 ∈ vs_ws ∧ Cond.initialized RX3 ∈ vs_ws := ⟨vs_mem 1250 (by decide +kernel) (by decide +kernel), vs_mem 90 (by decide +kernel) (by decide +kernel)⟩
theorem vl_X2_9 : Cond.classLink RX2 9 RX1 ∈ vs_ws := vs_mem 116 (by decide +kernel) (by decide +kernel)
theorem vl_X2_19 : Cond.classLink RX2 19 RX0 ∈ vs_ws := vs_mem 178 (by decide +kernel) (by decide +kernel)
theorem vl_X2_26 : Cond.classLink RX2 26 RJ4 ∈ vs_ws := vs_mem 237 (by decide +kernel) (by decide +kernel)
theorem vl_L_8 : Cond.classLink RL 8 RX2 ∈ vs_ws := vs_mem 108 (by decide +kernel) (by decide +kernel)
theorem vl_L_124 : Cond.classLink RL 124 RX3 ∈ vs_ws := vs_mem 1249 (by decide +kernel) (by decide +kernel)
section VSC
variable {p : Program} {l : Launch} {e : Env} {R : Room} {s : State} {m : MethodId} {args : Array Value} {below : List Frame} {meth : Method} {c : Code} {H : Heap} {locs : List Loc} {cells slots : Nat} {Q : State → Prop}
variable {cc : ByteArray} {pc nL : Nat} {ls : Array Slot} {rest : List Value} {own : String} {g : vs_G} {A : Nat → Prop} {H0 : Heap} {Wo : va_W} {a b : Nat}
theorem vs_objInit (hC : CallFix p m c cc nL s args vs_ws own) (hls : ls.size = nL) {idx : Nat} (hl : Cond.methodLink own idx Lib.objectInit ∈ vs_ws) (hd : decode cc pc = .ok (.invokespecial idx, 3)) (h1 : 1 ≤ R.frames) (h2 : (rest.map fun v => v.category).sum + 12 ≤ R.locals)
    (kk : W p l e R s m args below meth c H locs cells slots Q (F0 m (pc + 3) ls rest)) : W p l e R s m args below meth c H locs cells slots Q (F0 m pc ls (.ref a :: rest)) :=
  W.objInit hC.1 hC.2.1 hC.2.2.2.1 (hC.2.2.2.2 _ hl) (hC.2.2.2.2 _ vs_oi1) (hC.2.2.2.2 _ vs_oi2) rfl (by rw [hC.2.2.1]; exact hls) rfl hd h1 (by show 2 * 0 + _ + 12 ≤ _; omega) kk
theorem vs_alen (hC : CallFix p m c cc nL s args vs_ws own) (hW : vs_Wd g A H0 Wo H locs s) (q0 t0 : Nat) {cA : ClassId} {x : vp_A} (he : Wo[q0]? = some (a, .inl (cA, x))) {ty : FieldType} (ht : (vs_T g)[t0]? = some (cA, ty)) (hdg : decode cc pc = .ok (.arraylength, 1))
    (kk : W p l e R s m args below meth c H locs cells slots Q (F0 m (pc + 1) ls (.int (vs_I (x.1 : Int)) :: rest))) : W p l e R s m args below meth c H locs cells slots Q (F0 m pc ls (.ref a :: rest)) :=
  va_alen hC.1 hC.2.1 hW.1.1 hW.2.1 q0 t0 he ht (v := vs_I (x.1 : Int)) (by unfold vs_I; rfl) hdg kk
/-- the world with a new cell at its front part's end -/
theorem vs_pp {x r : va_W} {c9 : Nat × va_E} : ((x ++ r) ++ [c9]).Perm ((x ++ [c9]) ++ r) := by
  rw [List.append_assoc, List.append_assoc]; exact List.Perm.append_left _ List.perm_append_comm
theorem vs_Wd.perm2 {w1 w2 : va_W} (h : vs_Wd g A H0 w1 H locs s) (hp : w1.Perm w2) : vs_Wd g A H0 w2 H locs s := ⟨h.1, va_Pp h.2.1 hp, va_Dp h.2.2.1 hp, h.2.2.2⟩
theorem vs_newaI (hC : CallFix p m c cc nL s args vs_ws own) {x r : va_W} (hW : vs_Wd g A H0 (x ++ r) H locs s) {n : Int} {N : Nat} (hn : n = (N : Int)) (hN : N ≤ 60000) (h1 : cells + 1 ≤ R.cells) (h2 : slots + N ≤ R.slots) (hdg : decode cc pc = .ok (.newarray .int, 2))
    (kk : ∀ (q : Nat) (H1 : Heap), vs_Wd g A H0 ((x ++ [(q, .inl (g.2 0, N, .inl (vs_en (fun _ => 0))))]) ++ r) H1 locs s → W p l e R s m args below meth c H1 locs (cells + 1) (slots + N) Q (F0 m (pc + 2) ls (.ref q :: rest))) : W p l e R s m args below meth c H locs cells slots Q (F0 m pc ls (.int (vs_I n) :: rest)) := by
  refine va_newa (atype := .int) hC.1 hC.2.1 (hC.2.2.2.2 _ vs_arI) rfl hW.1.1 hW.2.1 hW.2.2.1 hW.2.2.2.1 hW.2.2.2.2 (N' := N) (a0 := (N, .inl (vs_en (fun _ => 0)))) (fun cA => rfl) (by rw [← vs_I_0, vs_I_lt ⟨by omega, by omega⟩ vs_R0]; omega) (by rw [vs_I_nat (by omega) (by omega)]; omega) (by show N * 4 ≤ _; omega) h1 h2 hdg (fun q cA H1 k1 k2 k3 k4 => ?_)
  have e1 : cA = g.2 0 := by
    have r1 := (k1.2 (vs_T g).length (cA, .int) (by rw [List.getElem?_append_right (Nat.le_refl _), Nat.sub_self]; rfl)).2
    have r2 := (hW.1.1.2 0 (g.2 0, .int) rfl).2
    exact Option.some.inj (r1.symm.trans r2)
  subst e1
  exact kk q H1 (vs_Wd.perm2 (w1 := (x ++ r) ++ [(q, .inl (g.2 0, N, .inl (vs_en (fun _ => 0))))]) ⟨hW.1, k2, k3, k4, hW.2.2.2.2⟩ vs_pp)
theorem vs_newaZ (hC : CallFix p m c cc nL s args vs_ws own) {x r : va_W} (hW : vs_Wd g A H0 (x ++ r) H locs s) {n : Int} {N : Nat} (hn : n = (N : Int)) (hN : N ≤ 60000) (h1 : cells + 1 ≤ R.cells) (h2 : slots + N ≤ R.slots) (hdg : decode cc pc = .ok (.newarray .boolean, 2))
    (kk : ∀ (q : Nat) (H1 : Heap), vs_Wd g A H0 ((x ++ [(q, .inl (g.2 1, N, .inl (vs_en (fun _ => 0))))]) ++ r) H1 locs s → W p l e R s m args below meth c H1 locs (cells + 1) (slots + N) Q (F0 m (pc + 2) ls (.ref q :: rest))) : W p l e R s m args below meth c H locs cells slots Q (F0 m pc ls (.int (vs_I n) :: rest)) := by
  refine va_newa (atype := .boolean) hC.1 hC.2.1 (hC.2.2.2.2 _ vs_arZ) rfl hW.1.1 hW.2.1 hW.2.2.1 hW.2.2.2.1 hW.2.2.2.2 (N' := N) (a0 := (N, .inl (vs_en (fun _ => 0)))) (fun cA => rfl) (by rw [← vs_I_0, vs_I_lt ⟨by omega, by omega⟩ vs_R0]; omega) (by rw [vs_I_nat (by omega) (by omega)]; omega) (by show N * 1 ≤ _; omega) h1 h2 hdg (fun q cA H1 k1 k2 k3 k4 => ?_)
  have e1 : cA = g.2 1 := by
    have r1 := (k1.2 (vs_T g).length (cA, .boolean) (by rw [List.getElem?_append_right (Nat.le_refl _), Nat.sub_self]; rfl)).2
    have r2 := (hW.1.1.2 1 (g.2 1, .boolean) rfl).2
    exact Option.some.inj (r1.symm.trans r2)
  subst e1
  exact kk q H1 (vs_Wd.perm2 (w1 := (x ++ r) ++ [(q, .inl (g.2 1, N, .inl (vs_en (fun _ => 0))))]) ⟨hW.1, k2, k3, k4, hW.2.2.2.2⟩ vs_pp)
theorem vs_newaC (hC : CallFix p m c cc nL s args vs_ws own) {x r : va_W} (hW : vs_Wd g A H0 (x ++ r) H locs s) {n : Int} {N : Nat} (hn : n = (N : Int)) (hN : N ≤ 60000) (h1 : cells + 1 ≤ R.cells) (h2 : slots + N ≤ R.slots) (hdg : decode cc pc = .ok (.newarray .char, 2))
    (kk : ∀ (q : Nat) (H1 : Heap), vs_Wd g A H0 ((x ++ [(q, .inl (g.2 2, N, .inl (vs_en (fun _ => 0))))]) ++ r) H1 locs s → W p l e R s m args below meth c H1 locs (cells + 1) (slots + N) Q (F0 m (pc + 2) ls (.ref q :: rest))) : W p l e R s m args below meth c H locs cells slots Q (F0 m pc ls (.int (vs_I n) :: rest)) := by
  refine va_newa (atype := .char) hC.1 hC.2.1 (hC.2.2.2.2 _ vs_arC) rfl hW.1.1 hW.2.1 hW.2.2.1 hW.2.2.2.1 hW.2.2.2.2 (N' := N) (a0 := (N, .inl (vs_en (fun _ => 0)))) (fun cA => rfl) (by rw [← vs_I_0, vs_I_lt ⟨by omega, by omega⟩ vs_R0]; omega) (by rw [vs_I_nat (by omega) (by omega)]; omega) (by show N * 2 ≤ _; omega) h1 h2 hdg (fun q cA H1 k1 k2 k3 k4 => ?_)
  have e1 : cA = g.2 2 := by
    have r1 := (k1.2 (vs_T g).length (cA, .char) (by rw [List.getElem?_append_right (Nat.le_refl _), Nat.sub_self]; rfl)).2
    have r2 := (hW.1.1.2 2 (g.2 2, .char) rfl).2
    exact Option.some.inj (r1.symm.trans r2)
  subst e1
  exact kk q H1 (vs_Wd.perm2 (w1 := (x ++ r) ++ [(q, .inl (g.2 2, N, .inl (vs_en (fun _ => 0))))]) ⟨hW.1, k2, k3, k4, hW.2.2.2.2⟩ vs_pp)
theorem vs_newaL (hC : CallFix p m c cc nL s args vs_ws own) {x r : va_W} (hW : vs_Wd g A H0 (x ++ r) H locs s) {n : Int} {N : Nat} (hn : n = (N : Int)) (hN : N ≤ 60000) (h1 : cells + 1 ≤ R.cells) (h2 : slots + N ≤ R.slots) (hdg : decode cc pc = .ok (.newarray .long, 2))
    (kk : ∀ (q : Nat) (H1 : Heap), vs_Wd g A H0 ((x ++ [(q, .inl (g.2 4, N, .inr (.inl (fun _ => 0))))]) ++ r) H1 locs s → W p l e R s m args below meth c H1 locs (cells + 1) (slots + N) Q (F0 m (pc + 2) ls (.ref q :: rest))) : W p l e R s m args below meth c H locs cells slots Q (F0 m pc ls (.int (vs_I n) :: rest)) := by
  refine va_newa (atype := .long) hC.1 hC.2.1 (hC.2.2.2.2 _ vs_arL) rfl hW.1.1 hW.2.1 hW.2.2.1 hW.2.2.2.1 hW.2.2.2.2 (N' := N) (a0 := (N, .inr (.inl (fun _ => 0)))) (fun cA => rfl) (by rw [← vs_I_0, vs_I_lt ⟨by omega, by omega⟩ vs_R0]; omega) (by rw [vs_I_nat (by omega) (by omega)]; omega) (by show N * 8 ≤ _; omega) h1 h2 hdg (fun q cA H1 k1 k2 k3 k4 => ?_)
  have e1 : cA = g.2 4 := by
    have r1 := (k1.2 (vs_T g).length (cA, .long) (by rw [List.getElem?_append_right (Nat.le_refl _), Nat.sub_self]; rfl)).2
    have r2 := (hW.1.1.2 4 (g.2 4, .long) rfl).2
    exact Option.some.inj (r1.symm.trans r2)
  subst e1
  exact kk q H1 (vs_Wd.perm2 (w1 := (x ++ r) ++ [(q, .inl (g.2 4, N, .inr (.inl (fun _ => 0))))]) ⟨hW.1, k2, k3, k4, hW.2.2.2.2⟩ vs_pp)
theorem vs_newaD (hC : CallFix p m c cc nL s args vs_ws own) {x r : va_W} (hW : vs_Wd g A H0 (x ++ r) H locs s) {n : Int} {N : Nat} (hn : n = (N : Int)) (hN : N ≤ 60000) (h1 : cells + 1 ≤ R.cells) (h2 : slots + N ≤ R.slots) (hdg : decode cc pc = .ok (.newarray .double, 2))
    (kk : ∀ (q : Nat) (H1 : Heap), vs_Wd g A H0 ((x ++ [(q, .inl (g.2 5, N, .inr (.inr (.inr (.inl (fun _ => 0))))))]) ++ r) H1 locs s → W p l e R s m args below meth c H1 locs (cells + 1) (slots + N) Q (F0 m (pc + 2) ls (.ref q :: rest))) : W p l e R s m args below meth c H locs cells slots Q (F0 m pc ls (.int (vs_I n) :: rest)) := by
  refine va_newa (atype := .double) hC.1 hC.2.1 (hC.2.2.2.2 _ vs_arD) rfl hW.1.1 hW.2.1 hW.2.2.1 hW.2.2.2.1 hW.2.2.2.2 (N' := N) (a0 := (N, .inr (.inr (.inr (.inl (fun _ => 0)))))) (fun cA => rfl) (by rw [← vs_I_0, vs_I_lt ⟨by omega, by omega⟩ vs_R0]; omega) (by rw [vs_I_nat (by omega) (by omega)]; omega) (by show N * 8 ≤ _; omega) h1 h2 hdg (fun q cA H1 k1 k2 k3 k4 => ?_)
  have e1 : cA = g.2 5 := by
    have r1 := (k1.2 (vs_T g).length (cA, .double) (by rw [List.getElem?_append_right (Nat.le_refl _), Nat.sub_self]; rfl)).2
    have r2 := (hW.1.1.2 5 (g.2 5, .double) rfl).2
    exact Option.some.inj (r1.symm.trans r2)
  subst e1
  exact kk q H1 (vs_Wd.perm2 (w1 := (x ++ r) ++ [(q, .inl (g.2 5, N, .inr (.inr (.inr (.inl (fun _ => 0))))))]) ⟨hW.1, k2, k3, k4, hW.2.2.2.2⟩ vs_pp)
theorem vs_newaB (hC : CallFix p m c cc nL s args vs_ws own) {x r : va_W} (hW : vs_Wd g A H0 (x ++ r) H locs s) {n : Int} {N : Nat} (hn : n = (N : Int)) (hN : N ≤ 60000) (h1 : cells + 1 ≤ R.cells) (h2 : slots + N ≤ R.slots) (hdg : decode cc pc = .ok (.newarray .byte, 2))
    (kk : ∀ (q : Nat) (H1 : Heap), vs_Wd g A H0 ((x ++ [(q, .inl (g.2 6, N, .inl (vs_en (fun _ => 0))))]) ++ r) H1 locs s → W p l e R s m args below meth c H1 locs (cells + 1) (slots + N) Q (F0 m (pc + 2) ls (.ref q :: rest))) : W p l e R s m args below meth c H locs cells slots Q (F0 m pc ls (.int (vs_I n) :: rest)) := by
  refine va_newa (atype := .byte) hC.1 hC.2.1 (hC.2.2.2.2 _ vs_arB) rfl hW.1.1 hW.2.1 hW.2.2.1 hW.2.2.2.1 hW.2.2.2.2 (N' := N) (a0 := (N, .inl (vs_en (fun _ => 0)))) (fun cA => rfl) (by rw [← vs_I_0, vs_I_lt ⟨by omega, by omega⟩ vs_R0]; omega) (by rw [vs_I_nat (by omega) (by omega)]; omega) (by show N * 1 ≤ _; omega) h1 h2 hdg (fun q cA H1 k1 k2 k3 k4 => ?_)
  have e1 : cA = g.2 6 := by
    have r1 := (k1.2 (vs_T g).length (cA, .byte) (by rw [List.getElem?_append_right (Nat.le_refl _), Nat.sub_self]; rfl)).2
    have r2 := (hW.1.1.2 6 (g.2 6, .byte) rfl).2
    exact Option.some.inj (r1.symm.trans r2)
  subst e1
  exact kk q H1 (vs_Wd.perm2 (w1 := (x ++ r) ++ [(q, .inl (g.2 6, N, .inl (vs_en (fun _ => 0))))]) ⟨hW.1, k2, k3, k4, hW.2.2.2.2⟩ vs_pp)
theorem vs_putF (hC : CallFix p m c cc nL s args vs_ws own) (hW : vs_Wd g A H0 Wo H locs s) (q0 : Nat) {C : String} {T : u_T} {N ci index : Nat} {fs : List Value} (he : Wo[q0]? = some (a, .inr (ci, fs))) (hc : vwCl[ci]? = some (C, T, N)) (hin : ∀ w ∈ u_ws C T N, w ∈ vs_ws) {ty0 : Nat → FieldType} (hty : ∀ k, k < N → parseFieldDescriptor (T k).2.2.1 = some (ty0 k)) (hnm : ∀ a, a < N → ∀ b, b < N → a ≠ b → (T a).2.1 ≠ (T b).2.1) (k : Nat) (hk : k < N) (hlink : Cond.fieldLink own index (T k).1 (T k).2.1 (T k).2.2.1 ∈ vs_ws) (hfin : (T k).2.2.2 = true) (hnme : meth.name = "<init>") (hdecl : (T k).1 = own) {v : Value} (hn : narrow (ty0 k) v = v) (hfit : fits (ty0 k) v = true) (hl : k < fs.length) {Wo' : va_W} (hset : Wo.set q0 (a, .inr (ci, fs.set k v)) = Wo')
    (hdg : decode cc pc = .ok (.putfield index, 3)) (kk : ∀ (H1 : Heap) (locs1 : List Loc), vs_Wd g A H0 Wo' H1 locs1 s → W p l e R s m args below meth c H1 locs1 cells slots Q (F0 m (pc + 3) ls rest)) : W p l e R s m args below meth c H locs cells slots Q (F0 m pc ls (v :: .ref a :: rest)) := by
  subst hset
  exact va_putF hC.1 hC.2.1 hC.2.2.2.2 hin ty0 hty hnm hC.2.2.2.1 hW.1.1 hW.2.1 hW.2.2.1 hW.2.2.2.1 q0 he hc k hk (hC.2.2.2.2 _ hlink) (fun _ h => h) hfin hnme hdecl (hty k hk) hn hfit hl hdg (fun H1 locs1 h1 h2 h3 => kk H1 locs1 ⟨hW.1, h1, h2, h3, hW.2.2.2.2⟩)
end VSC
