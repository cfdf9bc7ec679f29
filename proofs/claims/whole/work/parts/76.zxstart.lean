/-! what the start says of the texts, whole -/
set_option maxRecDepth 100000 in
theorem vs_f6a0 : ((flatC (Jvm.Cond.and given_1 narrow_1)).drop 14).take 100 = (List.range 100).map (fun j => Cond.eq (.elem (.static "java/lang/Integer" "DigitOnes" "[B") (.int (Int32.ofNat j))) (.int (vs_I (vs_ones (j : Int))))) := by decide +kernel
set_option maxRecDepth 100000 in
theorem vs_f6b0 : ((flatC (Jvm.Cond.and given_1 narrow_1)).drop 117).take 100 = (List.range 100).map (fun j => Cond.eq (.elem (.static "java/lang/Integer" "DigitTens" "[B") (.int (Int32.ofNat j))) (.int (vs_I (vs_tens (j : Int))))) := by decide +kernel
theorem vs_f6c {α : Type} {l : List α} {d : Nat} {f : Nat → α} (h : (l.drop d).take 100 = (List.range 100).map f) (j : Fin 100) : f j.val ∈ l := by
  have h1 : f j.val ∈ (List.range 100).map f := List.mem_map.mpr ⟨j.val, List.mem_range.mpr j.isLt, rfl⟩
  rw [← h] at h1
  exact List.mem_of_mem_drop (List.mem_of_mem_take h1)
theorem vs_OFof {args : Array Value} {s : State} {t : Term} {o n d : String} {v : Value} {a : Nat} {A : Nat → Prop} (ht : t.eval args s none [] s = some (.ref a)) (hv : (Term.field t o n d).eval args s none [] s = some v) (hA : ∀ a : Nat, a < s.heap.size → ¬ A a) : va_OF o n d v a A s s.heap := by
  cases hfo : s.fieldFound? o n d with
  | none =>
    rw [va_fe ht] at hv
    simp [State.fieldOf?, State.fieldNamed?, hfo] at hv
  | some x =>
    obtain ⟨cf, k, fi, f⟩ := x
    obtain ⟨g1, cell, g2, g3, -, -, g6⟩ := Term.field_spec hfo ht hv
    exact ⟨cf, k, fi, f, cell, hfo, g1, g2, g3, g6, hA _ (Array.getElem?_eq_some_iff.mp g2).1⟩
set_option maxRecDepth 20000 in
theorem vs_f7 {s : State} {b : Nat} {A : Nat → Prop} (hts : ∀ w ∈ lw_tbl, w.before #[Value.ref b] s = true) (hgv : (Jvm.Cond.and given_1 narrow_1).before #[Value.ref b] s = true) (hA : ∀ a : Nat, a < s.heap.size → ¬ A a) :
    ∃ a q : Nat, vs_Lit a q A s s.heap ∧ vk_R RX3 90 "" a s := by
  have hs := flat_of_before _ hgv
  have h1 : (Cond.exactly (.string RX3 90) RJ0).before #[Value.ref b] s = true := hs _ (by decide +kernel)
  obtain ⟨a, c, cell, k, ha, -⟩ := Cond.exactly_spec h1
  have hc := va_eqt (hs (.eq (.field (.string RX3 90) (TJ0 1).1 (TJ0 1).2.1 (TJ0 1).2.2.1) (.int 0)) (by decide +kernel))
  obtain ⟨q, hq, hT⟩ := va_Tof (N := 0) (ty := .byte) (f := fun _ => .int 0) (A := A) (by decide) (hs (.arrayOf (.field (.string RX3 90) (TJ0 0).1 (TJ0 0).2.1 (TJ0 0).2.2.1) .byte) (by decide +kernel)) (va_eqt (hs (.eq (.length (.field (.string RX3 90) (TJ0 0).1 (TJ0 0).2.1 (TJ0 0).2.2.1)) (.int 0)) (by decide +kernel))) (fun j hj => absurd hj (Nat.not_lt_zero j)) hA
  exact ⟨a, q, ⟨va_Oof h1 ha hA, vs_OFof ha hq hA, vs_OFof ha hc hA, hT⟩, vk_R.of (hts (.stringRef RX3 90 "") (by decide +kernel)) ha⟩
set_option maxRecDepth 20000 in
theorem vs_f8 {s : State} {b : Nat} (hts : ∀ w ∈ lw_tbl, w.before #[Value.ref b] s = true) : ∀ y ∈ vs_priv, (Cond.selects RJ4 y y).before #[] s = true := by
  have h0 : Cond.selects RJ4 yJ5_isLatin1_aae02 yJ5_isLatin1_aae02 ∈ lw_tbl := by decide +kernel
  have h1 : ∀ y ∈ vs_priv, Cond.privateMethod y ∈ lw_tbl := by decide +kernel
  have h2 : ∀ y ∈ vs_priv, Cond.instanceMethod y ∈ lw_tbl := by decide +kernel
  have h3 : ∀ y ∈ vs_priv, yJ5_isLatin1_aae02.cls = y.cls ∧ y.cls ≠ "java/lang/invoke/MethodHandle" ∧ y.cls ≠ "java/lang/invoke/VarHandle" := by decide +kernel
  exact fun y hy => va_tabs (u := s) rfl rfl (vs_selPriv (hts _ h0) (h3 y hy).1 (h3 y hy).2 (hts _ (h1 y hy)) (hts _ (h2 y hy)))
set_option maxRecDepth 20000 in
theorem vs_Xstart {s : State} {b : Nat} {A : Nat → Prop} (g : vs_G) (hts : ∀ w ∈ lw_tbl, w.before #[Value.ref b] s = true) (hgv : (Jvm.Cond.and given_1 narrow_1).before #[Value.ref b] s = true) (hA : ∀ a : Nat, a < s.heap.size → ¬ A a) : ∃ sd : Nat → Nat, vs_Xs g sd A s s.heap := by
  obtain ⟨e1, e2⟩ := vs_f1 hts
  obtain ⟨ad, had⟩ := Classical.axiomOfChoice (vs_f3 hts hgv)
  obtain ⟨f1, f2, f3⟩ := vs_f4 (A := A) hts hgv hA
  obtain ⟨t0, p0, p1⟩ := vs_f6 hts hgv hA "DigitOnes" vs_ones (by decide +kernel) (by decide +kernel) (by decide +kernel) (fun j => vs_f6c vs_f6a0 j)
  obtain ⟨t1, p2, p3⟩ := vs_f6 hts hgv hA "DigitTens" vs_tens (by decide +kernel) (by decide +kernel) (by decide +kernel) (fun j => vs_f6c vs_f6b0 j)
  obtain ⟨aL, qL, r1, r2⟩ := vs_f7 hts hgv hA
  refine ⟨fun i => if i < 100 then ad i else if i = 100 then t0 else if i = 101 then t1 else if i = 102 then aL else qL, e1, e2, fun i q h => ?_, vs_f2 hgv, f1, f2, vs_f5 hts hgv hA, ⟨p0, p1⟩, ⟨p2, p3⟩, f3, vs_f8 hts, va_Nw.of rfl (hts (.castable "[B" "java/lang/Cloneable") (by decide +kernel)), r1, r2, by
    have h : (Cond.arrayOver (.array .int)).before #[Value.ref b] s = true := hts _ (List.mem_of_getElem? (i := 1256) (by decide +kernel))
    exact h⟩
  have hlt : i < vs_str.length := (List.getElem?_eq_some_iff.mp h).1
  have hle : vs_str.length ≤ 100 := by decide
  show vk_R q.1 q.2.1 q.2.2 (if i < 100 then ad i else _) s
  rw [if_pos (by omega)]
  exact had i q h
