/-! System.arraycopy of a whole row of ints -/
def vs_cpy (S : vs_St) (k : Nat) (f : Int → Int) (n : Int) : vs_St := fun j => cond (Nat.beq j k) (fun e => if 0 ≤ e ∧ e < n then f e else S k e) (S j)
theorem vs_ac1 : Cond.native arraycopyName ∈ vs_ws := vs_mem 350 (by decide +kernel) (by decide +kernel)
theorem vs_ac2 : Cond.static arraycopyName ∈ vs_ws := vs_mem 349 (by decide +kernel) (by decide +kernel)
theorem vs_ac3 : Cond.initialized "java/lang/System" ∈ vs_ws := vs_mem 102 (by decide +kernel) (by decide +kernel)
theorem vm_X1_60 : Cond.methodLink RX1 60 arraycopyName ∈ vs_ws := vs_mem 348 (by decide +kernel) (by decide +kernel)
section VSM
variable {p : Program} {l : Launch} {e : Env} {R : Room} {s : State} {m : MethodId} {args : Array Value} {below : List Frame} {meth : Method} {c : Code} {H : Heap} {locs : List Loc} {cells slots : Nat} {Q : State → Prop}
variable {cc : ByteArray} {pc nL : Nat} {ls : Array Slot} {rest : List Value} {own : String} {g : vs_G} {A : Nat → Prop} {H0 : Heap} {Wo : va_W} {a b : Nat}
theorem vs_acopy (hC : CallFix p m c cc nL s args vs_ws own) (hW : vs_Wd g A H0 Wo H locs s) (q0 q1 : Nat) {n : Nat} {N : Int} {f f1 : Int → Int} (he : Wo[q0]? = some (b, .inl (g.2 0, n, .inl (vs_en f)))) (he1 : Wo[q1]? = some (a, .inl (g.2 0, n, .inl (vs_en f1)))) (hN : N = (n : Int)) (hn : n ≤ 2147483647) (hls : ls.size = nL) {index : Nat} (hl : Cond.methodLink own index arraycopyName ∈ vs_ws) {Wo' : va_W} (hset : Wo.set q1 (a, .inl (g.2 0, n, .inl (vs_en (fun e => if 0 ≤ e ∧ e < N then f e else f1 e)))) = Wo')
    (h1 : 1 ≤ R.frames) (h2 : (rest.map fun v => v.category).sum + (nativeFrameWords "java/lang/System" "arraycopy" 5 + 11) ≤ R.locals) (hdg : decode cc pc = .ok (.invokestatic index, 3))
    (kk : ∀ (H1 : Heap) (locs1 : List Loc), vs_Wd g A H0 Wo' H1 locs1 s → W p l e R s m args below meth c H1 locs1 cells slots Q (F0 m (pc + 3) ls rest)) : W p l e R s m args below meth c H locs cells slots Q (F0 m pc ls (.int (vs_I N) :: .int (vs_I 0) :: .ref a :: .int (vs_I 0) :: .ref b :: rest)) := by
  subst hset
  have z0 : ¬ vs_I 0 < 0 := by decide +kernel
  have z1 : (vs_I 0).toNatClampNeg = 0 := by decide +kernel
  have z2 : (vs_I N).toNatClampNeg = n := by rw [vs_I_nat (by omega) (by omega)]; omega
  have z3 : ¬ vs_I N < 0 := by rw [← vs_I_0, vs_I_lt ⟨by omega, by omega⟩ vs_R0]; omega
  have z4 : va_cpy (vs_en f) (vs_en f1) 0 0 n = vs_en (fun e => if 0 ≤ e ∧ e < N then f e else f1 e) := by
    funext j
    unfold va_cpy vs_en
    by_cases q : j < n
    · rw [if_pos (by omega)]; refine congrArg vs_I ?_; show _ = if _ then _ else _; rw [if_pos (by omega)]; congr 1; omega
    · rw [if_neg (by omega)]; refine congrArg vs_I ?_; show _ = if _ then _ else _; rw [if_neg (by omega)]
  refine va_copyi hC.1 hC.2.1 (by rw [hC.2.2.1, hls]) hC.2.2.2.1 (hC.2.2.2.2 _ hl) (hC.2.2.2.2 _ vs_ac1) (hC.2.2.2.2 _ vs_ac2) (hC.2.2.2.2 _ vs_ac3) hW.1.1 hW.2.1 hW.2.2.1 hW.2.2.2.1 q0 q1 0 0 he he1 rfl rfl rfl z0 z0 z3 (by rw [z1, z2]; omega) (by rw [z1, z2]; omega) (fun _ _ => rfl) h1 h2 hdg (fun H1 locs1 k1 k2 k3 => kk H1 locs1 ⟨hW.1, ?_, ?_, k3, hW.2.2.2.2⟩)
  · rw [z1, z2, z4] at k1; exact k1
  · rw [z1, z2, z4] at k2; exact k2
end VSM
