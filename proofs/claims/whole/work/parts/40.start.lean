/-! the law's start -/
theorem vs_arrK {s : State} {args : Array Value} {ty : FieldType} (h : (Cond.arrayClass ty).before args s = true) : ∃ cA : ClassId, ArrOfT s cA ty ∧ s.vm.findClass ("[" ++ ty.toString) = some cA := by
  obtain ⟨cA, kA, comp, h1, h2, h3⟩ := Cond.arrayClass_spec h
  exact ⟨cA, fun n z => ⟨fun k h => (by cases h), kA, h2, comp, h3⟩, h1⟩
theorem vs_arrKK {s : State} (h : va_AOA .int s) : ∃ cA : ClassId, ArrOfT s cA (.array .int) ∧ s.vm.findClass ("[" ++ (FieldType.array .int).toString) = some cA := by
  unfold va_AOA Cond.before Cond.holds at h
  simp only [Cond.value] at h
  have h := eq_of_beq h
  obtain ⟨comp, hc, h⟩ := Option.bind_eq_some_iff.mp h
  obtain ⟨c, hi, h⟩ := Option.bind_eq_some_iff.mp h
  obtain ⟨k, hk, h⟩ := Option.map_eq_some_iff.mp h
  cases hkd : k.kind with
  | array c9 ty9 =>
    rw [hkd] at h
    simp only [Bool.and_eq_true, decide_eq_true_eq] at h
    exact ⟨c, fun n z => ⟨fun k h => (by cases h), k, hk, c9, by rw [hkd, h.1]⟩, h.2⟩
  | _ => rw [hkd] at h; simp at h
