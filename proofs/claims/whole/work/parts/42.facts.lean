/-! what the start says of the texts and of the exceptions -/
theorem vs_f1 {s : State} {b : Nat} (hts : ∀ w ∈ lw_tbl, w.before #[Value.ref b] s = true) : (∀ q ∈ vs_cst, va_Nw (Cond.castable q.1 q.2) s) ∧ (∀ y ∈ vs_dcl, va_Nw (Cond.declares y) s) :=
  ⟨fun q hq => va_tabs rfl rfl (hts _ (vs_cst_in q hq)), fun y hy => va_tabs rfl rfl (hts _ (vs_dcl_in y hy))⟩
set_option maxRecDepth 20000 in
theorem vs_ncs_in : ∀ q ∈ vs_ncs, Cond.not (Cond.castable q.1 q.2) ∈ flatC (Jvm.Cond.and given_1 narrow_1) := by decide +kernel
theorem vs_f2 {s : State} {b : Nat} (hgv : (Jvm.Cond.and given_1 narrow_1).before #[Value.ref b] s = true) : ∀ q ∈ vs_ncs, va_Nc q.1 q.2 s := fun q hq => va_Nc.of (flat_of_before _ hgv _ (vs_ncs_in q hq))
theorem vs_f3 {s : State} {b : Nat} (hts : ∀ w ∈ lw_tbl, w.before #[Value.ref b] s = true) (hgv : (Jvm.Cond.and given_1 narrow_1).before #[Value.ref b] s = true) : ∀ i : Nat, ∃ a : Nat, ∀ q, vs_str[i]? = some q → vk_R q.1 q.2.1 q.2.2 a s := by
  intro i
  have hs := flat_of_before _ hgv
  cases hi : vs_str[i]? with
  | none => exact ⟨0, fun q h => by cases h⟩
  | some q0 =>
    have hq : q0 ∈ vs_str := List.mem_of_getElem? hi
    have h1 : ∀ q ∈ vs_str, (Cond.exactly (Term.string q.1 q.2.1) "java/lang/String").before #[Value.ref b] s = true := by
      intro q hq
      refine hs _ ?_
      revert q
      decide +kernel
    have h2 := h1 q0 hq
    obtain ⟨a, c, cell, k, ha, -⟩ := Cond.exactly_spec h2
    exact ⟨a, fun q h => by cases h; exact vk_R.of (hts _ (vs_str_in _ hq)) ha⟩
theorem vs_f4 {s : State} {b : Nat} {A : Nat → Prop} (hts : ∀ w ∈ lw_tbl, w.before #[Value.ref b] s = true) (hgv : (Jvm.Cond.and given_1 narrow_1).before #[Value.ref b] s = true) (hA : ∀ a : Nat, a < s.heap.size → ¬ A a) :
    vx_Zq Bundle.tN "UNASSIGNED_STACK" Bundle.steD A s s.heap ∧ vx_Zq Bundle.tN "SUPPRESSED_SENTINEL" Bundle.listD A s s.heap ∧ va_Zq "jdk/internal/util/Preconditions" "SIOOBE_FORMATTER" "Ljava/util/function/BiFunction;" A s s.heap :=
  have hs := flat_of_before _ hgv
  ⟨vx_Zqof (hts (.laysStatic Bundle.tN "UNASSIGNED_STACK" Bundle.steD) (by decide +kernel)) (hts (.initialized Bundle.tN) (by decide +kernel)) (hs (.isRef (.static Bundle.tN "UNASSIGNED_STACK" Bundle.steD)) (by decide +kernel)) hA,
    vx_Zqof (hts (.laysStatic Bundle.tN "SUPPRESSED_SENTINEL" Bundle.listD) (by decide +kernel)) (hts (.initialized Bundle.tN) (by decide +kernel)) (hs (.isRef (.static Bundle.tN "SUPPRESSED_SENTINEL" Bundle.listD)) (by decide +kernel)) hA,
    va_Zqof (hts (.laysStatic "jdk/internal/util/Preconditions" "SIOOBE_FORMATTER" "Ljava/util/function/BiFunction;") (by decide +kernel)) (hts (.initialized "jdk/internal/util/Preconditions") (by decide +kernel)) (hs (.isRef (.static "jdk/internal/util/Preconditions" "SIOOBE_FORMATTER" "Ljava/util/function/BiFunction;")) (by decide +kernel)) hA⟩
theorem vs_f5 {s : State} {b : Nat} {A : Nat → Prop} (hts : ∀ w ∈ lw_tbl, w.before #[Value.ref b] s = true) (hgv : (Jvm.Cond.and given_1 narrow_1).before #[Value.ref b] s = true) (hA : ∀ a : Nat, a < s.heap.size → ¬ A a) :
    va_Z "java/lang/String" "COMPACT_STRINGS" "Z" (.int (vs_I 1)) A s s.heap :=
  have hs := flat_of_before _ hgv
  va_Zof (hts (.laysStatic "java/lang/String" "COMPACT_STRINGS" "Z") (by decide +kernel)) (hts (.initialized "java/lang/String") (by decide +kernel)) (va_eqt (hs (.eq (.static "java/lang/String" "COMPACT_STRINGS" "Z") (.int 1)) (by decide +kernel))) hA
theorem vs_f6 {s : State} {b : Nat} {A : Nat → Prop} (hts : ∀ w ∈ lw_tbl, w.before #[Value.ref b] s = true) (hgv : (Jvm.Cond.and given_1 narrow_1).before #[Value.ref b] s = true) (hA : ∀ a : Nat, a < s.heap.size → ¬ A a) (n : String) (f : Int → Int)
    (h1 : Cond.laysStatic "java/lang/Integer" n "[B" ∈ lw_tbl) (h2 : Cond.arrayOf (.static "java/lang/Integer" n "[B") .byte ∈ flatC (Jvm.Cond.and given_1 narrow_1)) (h3 : Cond.eq (.length (.static "java/lang/Integer" n "[B")) (.int 100) ∈ flatC (Jvm.Cond.and given_1 narrow_1))
    (h4 : ∀ j : Fin 100, Cond.eq (.elem (.static "java/lang/Integer" n "[B") (.int (Int32.ofNat j.val))) (.int (vs_I (f (j.val : Int)))) ∈ flatC (Jvm.Cond.and given_1 narrow_1)) :
    ∃ t : Nat, va_Z "java/lang/Integer" n "[B" (.ref t) A s s.heap ∧ va_T .byte t 100 (fun j => .int (vs_en f j)) A s s.heap := by
  have hs := flat_of_before _ hgv
  obtain ⟨t, ht, hT⟩ := va_Tof (N := 100) (f := fun j => .int (vs_en f j)) (A := A) (by decide) (hs _ h2) (va_eqt (hs _ h3)) (fun j hj => va_eqt (hs _ (h4 ⟨j, hj⟩))) hA
  exact ⟨t, va_Zof (hts _ h1) (hts (.initialized "java/lang/Integer") (by decide +kernel)) ht hA, hT⟩
