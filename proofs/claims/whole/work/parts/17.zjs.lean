/-! the statics that texts read -/
def vs_priv : List MethodName := [yJ5_ensureCapacityInternal_d00df, yJ5_newCapacity_0f7a4]
def vs_ones (i : Int) : Int := i % 10 + 48
def vs_tens (i : Int) : Int := i / 10 + 48
/-- the empty text that the class file holds -/
def vs_Lit (a q : Nat) (A : Nat → Prop) (U : State) (H : Heap) : Prop := va_O RJ0 a A U H ∧ va_OF (TJ0 0).1 (TJ0 0).2.1 (TJ0 0).2.2.1 (.ref q) a A U H ∧ va_OF (TJ0 1).1 (TJ0 1).2.1 (TJ0 1).2.2.1 (.int (vs_I 0)) a A U H ∧ va_T .byte q 0 (fun _ => .int 0) A U H
theorem vs_Lit.moved {a q : Nat} {A : Nat → Prop} {u U : State} {H : Heap} (ha : u.vm.Alike U.vm) (h : vs_Lit a q A u H) : vs_Lit a q A U H :=
  ⟨va_O.moved ha h.1, va_OF.moved ha h.2.1, va_OF.moved ha h.2.2.1, va_T.moved ha h.2.2.2⟩
theorem vs_Lit.hand {a q : Nat} {A B : Nat → Prop} {U : State} {H0 H : Heap} (hk : ∀ a : Nat, a < H0.size → ¬ A a → H[a]? = H0[a]?) (hAB : ∀ q, B q → A q) (h : vs_Lit a q A U H0) : vs_Lit a q B U H :=
  ⟨(h.1.kept hk).narrow hAB, (h.2.1.kept hk).narrow hAB, (h.2.2.1.kept hk).narrow hAB, (h.2.2.2.kept hk).narrow hAB⟩
/-- the statics that texts read -/
def vs_Js (g : vs_G) (jd : Nat → Nat) (A : Nat → Prop) (U : State) (H : Heap) : Prop :=
  va_Z "java/lang/String" "COMPACT_STRINGS" "Z" (.int (vs_I 1)) A U H ∧ (va_Z "java/lang/Integer" "DigitOnes" "[B" (.ref (jd 0)) A U H ∧ va_T .byte (jd 0) 100 (fun j => .int (vs_en vs_ones j)) A U H) ∧ (va_Z "java/lang/Integer" "DigitTens" "[B" (.ref (jd 1)) A U H ∧ va_T .byte (jd 1) 100 (fun j => .int (vs_en vs_tens j)) A U H) ∧ va_Zq "jdk/internal/util/Preconditions" "SIOOBE_FORMATTER" "Ljava/util/function/BiFunction;" A U H ∧ (∀ y ∈ vs_priv, (Cond.selects RJ4 y y).before #[] U = true) ∧ va_Nw (.castable "[B" "java/lang/Cloneable") U ∧ vs_Lit (jd 2) (jd 3) A U H ∧ vk_R RX3 90 "" (jd 2) U ∧ va_AOA .int U
theorem vs_aoaH {u U : State} (hv : u.vm.Alike U.vm) (h : va_AOA .int u) : va_AOA .int U := by
  have e := Cond.arrayOver_setVmC (args := #[]) hv (.array .int)
  have e2 : (Cond.arrayOver (.array .int)).before #[] (u.setVm U.vm) = (Cond.arrayOver (.array .int)).before #[] U := by simp only [Cond.before, Cond.holds, Cond.value, State.vm_setVm]; rfl
  unfold va_AOA at h ⊢
  rw [← e2, e]; exact h
theorem vs_privH {s U : State} (hW : s.WarmedH U.vm) (h : ∀ y ∈ vs_priv, (Cond.selects RJ4 y y).before #[] s = true) : ∀ y ∈ vs_priv, (Cond.selects RJ4 y y).before #[] U = true :=
  fun y hy => word_at (args := #[]) hW (.inl rfl) (h y hy)
theorem vs_Js.same {g : vs_G} {jd : Nat → Nat} {A : Nat → Prop} {u U : State} {H : Heap} (hv : u.vm = U.vm) (h : vs_Js g jd A u H) : vs_Js g jd A U H := by
  have ha : u.vm.Alike U.vm := by rw [hv]; exact Vm.Alike.refl U.vm
  exact ⟨va_Z.moved ha h.1, ⟨va_Z.moved ha h.2.1.1, va_T.moved ha h.2.1.2⟩, ⟨va_Z.moved ha h.2.2.1.1, va_T.moved ha h.2.2.1.2⟩, va_Zq.moved ha h.2.2.2.1, vs_privH (by rw [← hv]; exact State.WarmedH.refl u) h.2.2.2.2.1, va_Nw.same rfl hv h.2.2.2.2.2.1, vs_Lit.moved ha h.2.2.2.2.2.2.1, vk_R.same hv.symm h.2.2.2.2.2.2.2.1, vs_aoaH ha h.2.2.2.2.2.2.2.2⟩
theorem vs_Js.hand {g : vs_G} {jd : Nat → Nat} {A B : Nat → Prop} {s U : State} {H0 H : Heap} (hW : s.WarmedH U.vm) (hk : ∀ a : Nat, a < H0.size → ¬ A a → H[a]? = H0[a]?) (hAB : ∀ q, B q → A q) (h : vs_Js g jd A s H0) : vs_Js g jd B U H :=
  ⟨va_Z.moved hW.alike ((h.1.kept hk).narrow hAB), ⟨va_Z.moved hW.alike ((h.2.1.1.kept hk).narrow hAB), va_T.moved hW.alike ((h.2.1.2.kept hk).narrow hAB)⟩, ⟨va_Z.moved hW.alike ((h.2.2.1.1.kept hk).narrow hAB), va_T.moved hW.alike ((h.2.2.1.2.kept hk).narrow hAB)⟩, va_Zq.moved hW.alike ((h.2.2.2.1.kept hk).narrow hAB), vs_privH hW h.2.2.2.2.1, va_Nw.warmC hW h.2.2.2.2.2.1, vs_Lit.moved hW.alike (h.2.2.2.2.2.2.1.hand hk hAB), vk_R.warm hW h.2.2.2.2.2.2.2.1, vs_aoaH hW.alike h.2.2.2.2.2.2.2.2⟩
def vs_jd (sd : Nat → Nat) : Nat → Nat := fun k => sd (100 + k)
